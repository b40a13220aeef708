/-! THE FACE: A PROGRAM RUN -/
section GFzc
variable {Γ : gE} {de mi : Nat} {h h' h1 : gHp} {m B : Nat} {V : Nat → Int32} {F : Nat → Nat → Int32} {ex : List oT}
theorem ppR_len {tx : Nat → Nat} {n : Nat} : ∀ {f p : Nat} {acc cs : List pcT}, p ≤ n → 5 * acc.length ≤ p → ppR tx n f p acc = .inr cs → 5 * cs.length ≤ n + 1
  | 0, p, acc, cs, hp, ha, h => by cases h
  | f + 1, p, acc, cs, hp, ha, h => by
    cases hc : pcR tx n p with
    | inl e => rw [ppR_no hc] at h; cases h
    | inr y =>
      obtain ⟨c, p'⟩ := y
      obtain ⟨h1, h2⟩ := pcR_in hc
      rw [ppR_s hc] at h
      split at h
      · cases h
        rw [List.length_append, List.length_singleton]
        omega
      · split at h
        · exact ppR_len (by omega) (by rw [List.length_append, List.length_singleton]; omega) h
        · cases h
def runT (N : Nat → Int32) (R : Nat ⊕ List pcT) : Int32 := match R with
  | .inl _ => nI 1
  | .inr cs => match exR N cs 0 with
    | .inl _ => nI 2
    | .inr _ => nI 0
def runX (N : Nat → Int32) (R : Nat ⊕ List pcT) : Int32 := match R with
  | .inl _ => nI 0
  | .inr cs => match exR N cs 0 with
    | .inl _ => nI 0
    | .inr _ => nI cs.length
/-- behind a run -/
def rnP (Γ : gE) (de : Nat) (h : gHp) (m : Nat) (V : Nat → Int32) (F : Nat → Nat → Int32) (B : Nat) (R : Nat ⊕ List pcT) (r : Nat) (h' : gHp) : Prop := (∀ v V1 F1, runZ V F R r v V1 F1 → gMO Γ de h' m V1 F1 (B + 12)) ∧ gFr (kC Γ) h h'
section Pic
variable {o hl tt bu sb : Nat} {svv : Value}
theorem gMX.inj (G : gMX Γ de h m V F B ex) (hm : gMc h m o svv hl tt bu (V 10) sb (V 7) (V 8)) : ∃ (fo : List Nat) (sv fr : List oT) (fl : List Nat), (∀ x ∈ ex ++ ((F 0, o, fo) :: (sv ++ fr)), gOne Γ de h B x) ∧ (ex ++ ((F 0, o, fo) :: (sv ++ fr))).Pairwise gApart ∧ ((V 5 = nI 0 ∧ sv = [] ∧ svv = .null) ∨ (V 5 = nI 1 ∧ ∃ os fs, sv = [(F 3, os, fs)] ∧ svv = .ref os)) ∧ (V 6 = nI fr.length ∧ fr.length ≤ 8 ∧ ∀ i x, fr[i]? = some x → ∀ q, q < 202 → x.1 q = F 4 (202 * i + q)) ∧ (gAL Γ de h hl fl (fr.map (fun x => x.2.1)) ∧ ∀ q ∈ fl, ∀ x ∈ ex ++ ((F 0, o, fo) :: (sv ++ fr)), q ∉ x.2.2) ∧ gTl Γ h V F tt bu sb := by
  obtain ⟨o2, fo, sv, fr, svv2, hl2, tt2, bu2, sb2, fl, a1, a2⟩ := G
  have ee := Option.some.inj (a1.symm.trans hm)
  cases ee
  exact ⟨fo, sv, fr, fl, a2⟩
theorem gMX.v7 (G : gMX Γ de h m V F B ex) (hm : gMc h m o svv hl tt bu (V 10) sb (V 7) (V 8)) (y : Int32) : gMX Γ de (gUp h m (gJ 12 [.ref o, svv, .ref hl, .ref tt, .ref bu, .int (V 10), .ref sb, .int y, .int (V 8)])) m (vU V 7 y) F B ex ∧ gFr (kC Γ) h (gUp h m (gJ 12 [.ref o, svv, .ref hl, .ref tt, .ref bu, .int (V 10), .ref sb, .int y, .int (V 8)])) := by
  obtain ⟨fo, sv, fr, fl, a2, a3, a4, a5, ⟨a6, a7⟩, a8⟩ := G.inj hm
  obtain ⟨k1, k2⟩ := up12 (Γ := Γ) (c := gJ 12 [.ref o, svv, .ref hl, .ref tt, .ref bu, .int (V 10), .ref sb, .int y, .int (V 8)]) hm
  exact ⟨⟨o, fo, sv, fr, svv, hl, tt, bu, sb, fl, gUp_s _ _ _, fun z hz => (a2 z hz).k12 k1, a3, a4, a5, ⟨gAL_k12 a6 k1, a7⟩, a8.k12 k1⟩, k2⟩
theorem gMX.v8 (G : gMX Γ de h m V F B ex) (hm : gMc h m o svv hl tt bu (V 10) sb (V 7) (V 8)) (y : Int32) : gMX Γ de (gUp h m (gJ 12 [.ref o, svv, .ref hl, .ref tt, .ref bu, .int (V 10), .ref sb, .int (V 7), .int y])) m (vU V 8 y) F B ex ∧ gFr (kC Γ) h (gUp h m (gJ 12 [.ref o, svv, .ref hl, .ref tt, .ref bu, .int (V 10), .ref sb, .int (V 7), .int y])) := by
  obtain ⟨fo, sv, fr, fl, a2, a3, a4, a5, ⟨a6, a7⟩, a8⟩ := G.inj hm
  obtain ⟨k1, k2⟩ := up12 (Γ := Γ) (c := gJ 12 [.ref o, svv, .ref hl, .ref tt, .ref bu, .int (V 10), .ref sb, .int (V 7), .int y]) hm
  exact ⟨⟨o, fo, sv, fr, svv, hl, tt, bu, sb, fl, gUp_s _ _ _, fun z hz => (a2 z hz).k12 k1, a3, a4, a5, ⟨gAL_k12 a6 k1, a7⟩, a8.k12 k1⟩, k2⟩
theorem gMX.v10 (G : gMX Γ de h m V F B ex) (hm : gMc h m o svv hl tt bu (V 10) sb (V 7) (V 8)) : gMX Γ de (gUp h m (gJ 12 [.ref o, svv, .ref hl, .ref tt, .ref bu, .int (nI 0), .ref sb, .int (V 7), .int (V 8)])) m (vU V 10 (nI 0)) F B ex ∧ gFr (kC Γ) h (gUp h m (gJ 12 [.ref o, svv, .ref hl, .ref tt, .ref bu, .int (nI 0), .ref sb, .int (V 7), .int (V 8)])) := by
  obtain ⟨fo, sv, fr, fl, a2, a3, a4, a5, ⟨a6, a7⟩, ⟨t1, ⟨n, tx, f9, b1, b2, b3, b4⟩, t3⟩⟩ := G.inj hm
  obtain ⟨k1, k2⟩ := up12 (Γ := Γ) (c := gJ 12 [.ref o, svv, .ref hl, .ref tt, .ref bu, .int (nI 0), .ref sb, .int (V 7), .int (V 8)]) hm
  exact ⟨⟨o, fo, sv, fr, svv, hl, tt, bu, sb, fl, gUp_s _ _ _, fun z hz => (a2 z hz).k12 k1, a3, a4, a5, ⟨gAL_k12 a6 k1, a7⟩, t1.ft k1 (fun e z => by unfold tgT at z; omega), ⟨0, tx, f9, rfl, Nat.zero_le _, k1 _ _ b3 (by show ¬ (160 : Nat) = 12; decide), fun i hi => by omega⟩, t3.ft k1 (fun e z => by unfold tgL at z; omega)⟩, k2⟩
end Pic
/-- the office beside becomes the office now, the old one a former one -/
theorem gMX.fin {x : oT} (G : gMX Γ de h m V F B [x]) : ∃ o svv hl tt bu sb fl xs r, gMc h m o svv hl tt bu (V 10) sb (V 7) (V 8) ∧ V 6 = nI r ∧ r ≤ 8 ∧ gAL Γ de h hl fl xs ∧ xs.length = r ∧ gEl h 7 xs ∧ (∃ vs, h o = some (gJ 7 vs)) ∧ m ∉ fl ∧ ∀ (h1 : gHp) (fl' : List Nat), gAL Γ de h1 hl fl' ((if xs.length = 8 then xs.eraseIdx 0 else xs) ++ [o]) → (∀ q ∈ fl', q ∈ fl ∨ h q = none) → gKeep (fun q => q ∈ fl) h h1 → gMX Γ de (gUp h1 m (gJ 12 [.ref x.2.1, svv, .ref hl, .ref tt, .ref bu, .int (V 10), .ref sb, .int (V 7), .int (V 8)])) m (vU V 6 (nI (rMr r))) (fR (fR F 0 x.1) 4 (rMem (F 4) (F 0) r)) B [] ∧ gFr (kC Γ) h (gUp h1 m (gJ 12 [.ref x.2.1, svv, .ref hl, .ref tt, .ref bu, .int (V 10), .ref sb, .int (V 7), .int (V 8)])) := by
  obtain ⟨o, fo, sv, fr, svv, hl, tt, bu, sb, fl, a1, a2, a3, a4, ⟨a51, a52, a53⟩, ⟨a6, a7⟩, a8⟩ := G
  have a2' : ∀ y ∈ x :: ((F 0, o, fo) :: (sv ++ fr)), gOne Γ de h B y := a2
  have a7' : ∀ q ∈ fl, ∀ y ∈ x :: ((F 0, o, fo) :: (sv ++ fr)), q ∉ y.2.2 := a7
  obtain ⟨p1, p2⟩ := List.pairwise_cons.mp (show (x :: ((F 0, o, fo) :: (sv ++ fr))).Pairwise gApart from a3)
  obtain ⟨p3, p4⟩ := List.pairwise_cons.mp p2
  have hnow : (F 0, o, fo) ∈ x :: ((F 0, o, fo) :: (sv ++ fr)) := List.mem_cons_of_mem _ List.mem_cons_self
  have pw : ((F 0, o, fo) :: ((x :: sv) ++ fr)).Pairwise gApart := List.pairwise_cons.mpr ⟨fun y hy => by
    rcases List.mem_cons.mp (show y ∈ x :: (sv ++ fr) from hy) with rfl | z
    · exact (p1 _ List.mem_cons_self).symm
    · exact p3 y z, List.pairwise_cons.mpr ⟨fun y hy => p1 y (List.mem_cons_of_mem _ hy), p4⟩⟩
  refine ⟨o, svv, hl, tt, bu, sb, fl, _, fr.length, a1, a51, a52, a6, List.length_map _, fun y hy => ?_, (a2' _ hnow).at7, fun z => ?_, fun h1 fl' hA hf hk => ?_⟩
  · obtain ⟨z, hz, rfl⟩ := List.mem_map.mp hy
    exact (a2' z (List.mem_cons_of_mem _ (List.mem_cons_of_mem _ (List.mem_append_right _ hz)))).at7
  · obtain ⟨e, e2, e3⟩ := gAL_tg a6 m z
    cases (Option.some.inj (e2.symm.trans a1))
    exact absurd e3 t12_4
  · have kL := gAL_tgk a6 hk
    have hm1 : h1 m = some _ := kL _ _ a1 t12_4
    obtain ⟨k1, k2⟩ := up12 (Γ := Γ) (c := gJ 12 [.ref x.2.1, svv, .ref hl, .ref tt, .ref bu, .int (V 10), .ref sb, .int (V 7), .int (V 8)]) hm1
    obtain ⟨f0, hf0, hsub⟩ := frN_sub fr (F 0, o, fo)
    have e1 : [] ++ ((x.1, x.2.1, x.2.2) :: (sv ++ frN fr (F 0, o, fo))) = (x :: sv) ++ (f0 ++ [(F 0, o, fo)]) := by rw [hf0]; rfl
    have hin : ∀ y ∈ (x :: sv) ++ (f0 ++ [(F 0, o, fo)]), y ∈ x :: ((F 0, o, fo) :: (sv ++ fr)) := fun y hy => by
      have := pw_mem hsub hy
      simp only [List.mem_cons, List.mem_append] at this ⊢
      rcases this with z | ((z | z) | z)
      · exact Or.inr (Or.inl z)
      · exact Or.inl z
      · exact Or.inr (Or.inr (Or.inl z))
      · exact Or.inr (Or.inr (Or.inr z))
    refine ⟨⟨x.2.1, x.2.2, sv, frN fr (F 0, o, fo), svv, hl, tt, bu, sb, fl', gUp_s _ _ _, ?_, ?_, a4, ⟨?_, ?_, ?_⟩, ⟨?_, ?_⟩, (a8.ft kL (fun e z => tg_TBL4 z)).k12 k1⟩, (gAL_kck a6 hk).tr k2⟩
    · show ∀ y ∈ [] ++ ((x.1, x.2.1, x.2.2) :: (sv ++ frN fr (F 0, o, fo))), gOne Γ de _ B y
      rw [e1]
      exact fun y hy => ((a2' y (hin y hy)).kpl hk a6 (fun q hq => a7' q hq y (hin y hy))).k12 k1
    · show ([] ++ ((x.1, x.2.1, x.2.2) :: (sv ++ frN fr (F 0, o, fo)))).Pairwise gApart
      rw [e1]
      exact pw_end hsub pw
    · rw [frN_len a52]; rfl
    · rw [frN_len a52]; unfold rMr; split <;> omega
    · exact frN_row a52 a53
    · rw [frN_map]; exact gAL_k12 hA k1
    · show ∀ q ∈ fl', ∀ y ∈ [] ++ ((x.1, x.2.1, x.2.2) :: (sv ++ frN fr (F 0, o, fo))), q ∉ y.2.2
      rw [e1]
      intro q hq y hy z
      rcases hf q hq with w | w
      · exact a7' q w y (hin y hy) z
      · obtain ⟨e, e3, -⟩ := (a2' y (hin y hy)).cell q z
        rw [w] at e3
        cases e3
/-- the buffer -/
theorem gMX.bf {n : Nat} {tx : Nat → Nat} (G : gMX Γ de h m V F B ex) (e10 : V 10 = nI n) (hn : n ≤ 60) (hT : ∀ i, i < n → F 9 i = nI (tx i) ∧ tx i < 128) : ∃ o svv hl tt bu sb f9, gMc h m o svv hl tt bu (V 10) sb (V 7) (V 8) ∧ h bu = some (gCh Γ 60 f9) ∧ m ≠ bu ∧ ∀ i, i < n → f9 i = nI (tx i) ∧ tx i < 128 := by
  obtain ⟨o, fo, sv, fr, svv, hl, tt, bu, sb, fl, a1, a2, a3, a4, a5, ⟨a6, a7⟩, ⟨t1, ⟨n2, tx2, f9, b1, b2, b3, b4⟩, t3⟩⟩ := G
  have en : n2 = n := (nI_eqI (by omega) (by omega)).mp (b1.symm.trans e10)
  subst en
  refine ⟨o, svv, hl, tt, bu, sb, f9, a1, b3, fun z => ?_, fun i hi => ⟨?_, (hT i hi).2⟩⟩
  · have y : h m = some (gJ 12 [.ref o, svv, .ref hl, .ref tt, .ref bu, .int (V 10), .ref sb, .int (V 7), .int (V 8)]) := a1
    rw [z, b3] at y
    cases y
  · obtain ⟨c1, c2, c3⟩ := b4 i hi
    rw [c3, ← c1, (hT i hi).1]
variable {d1 d10 ka sm : Nat} {vf : Value} {ks ss : Nat → Nat}
/-- the heap with the buffer emptied alone -/
theorem all_up {hA hC : gHp} {c : va_E} {S : Nat → Prop} (ka : gAll h hA) (hm : ∃ e, h m = some e) (hk : gKeep S (gUp hA m c) hC) (hS : ∀ q, S q → h q = none) : gAll (gUp h m c) hC := by
  intro a e n z
  have hSa : ¬ S a := fun y => by
    have h0 := hS a y
    unfold gUp at z
    by_cases ha : a = m
    · obtain ⟨e9, h9⟩ := hm
      rw [← ha, h0] at h9
      cases h9
    · rw [if_neg ha, h0] at z
      cases z
  refine hk a e hSa ?_
  unfold gUp at z ⊢
  by_cases ha : a = m
  · rw [if_pos ha] at z ⊢
    exact z
  · rw [if_neg ha] at z ⊢
    exact ka a e (fun y => y) z
theorem gAL_all {hl : Nat} {fl xs : List Nat} (H : gAL Γ de h hl fl xs) (k : gAll h h1) : gAL Γ de h1 hl fl xs := gAL_kp H k (fun _ _ z => z)
theorem run_loop {cs : List pcT} {r cl pa : Nat} {xs fpc : List Nat} {hC : gHp} {y1 y2 y3 : Value} (hps : gPsb Γ d1 d10 vf) (hkw : gPkw Γ ka ks ss) (hsw : gPsw Γ sm ks) (hpl : gPall Γ de mi) (hp : gPxs Γ) (hB9 : B ≤ 9000) (hcs : cs.length ≤ 12) (hK : ∀ x ∈ cs, pcK x) (h6 : V 6 = nI r) (hr : r ≤ 8) (kfC : gFr (kC Γ) h hC) (hpa : hC pa = some (gJ 8 [y1, y2, y3, .ref cl])) (HL : gAL Γ de hC cl fpc xs) (hxl : xs.length = cs.length) (hxs : ∀ (i a : Nat) (x : pcT), xs[i]? = some a → cs[i]? = some x → gCd ks hC x a) : ∀ (n k : Nat) (Nk : Nat → Int32) (b : Nat) (fpk : List Nat) (hk : gHp), k + n = cs.length → gMX Γ de hk m (vU V 10 (nI 0)) F (B + k) [(Nk, b, fpk)] → exR (F 0) cs 0 = exR Nk (cs.drop k) k → (∀ q ∈ fpk, hC q = none) → gAll hC hk → gFr (kC Γ) hC hk → G Γ M_X9_run 14 600 (3300 + 2563 * cs.length) (fZ (runT (F 0) (.inr cs)) (.int (runX (F 0) (.inr cs))) (rnP Γ de h m V F B (.inr cs) r)) (fX (runT (F 0) (.inr cs)) (nmOf xIA xIS xIS) (rnP Γ de h m V F B (.inr cs) r)) (41 * n + 2) (2563 * n + 70) 66 [some (.ref m), some (.ref pa), some (.ref b), some (.int (nI cs.length)), some (.int (nI k))] [] hk := by
  intro n
  induction n with
  | zero =>
    intro k Nk b fpk hk hkn GK eR hf ka kf
    have hkl : k = cs.length := by omega
    have eR9 : exR (F 0) cs 0 = .inr Nk := by rw [eR, hkl, List.drop_length]; rfl
    have eT : runT (F 0) (.inr cs) = nI 0 := by unfold runT; dsimp only; rw [eR9]
    have eX : runX (F 0) (.inr cs) = nI cs.length := by unfold runX; dsimp only; rw [eR9]
    obtain ⟨o7, svv7, hl7, tt7, bu7, sb7, fl7, xs7, r7, hm7, f6, f8, fL, fl9, fE, fo, fm, hF⟩ := GK.fin
    have er : r7 = r := (nI_eqI (by omega) (by omega)).mp (f6.symm.trans h6)
    subst er
    obtain ⟨vs7, fo7⟩ := fo
    refine g_blk [(.iload 4, .null), (.iload_n 3, .null)] (Nat.le_of_ble_eq_true rfl) (by decide +kernel) ?_
    refine gx_iload_4 (gx_iload_n_3 ((gx_nil ?_)))
    refine g_icmp_ge (off := 45) (tgt := 114) (by decide +kernel) (by decide) (fun c69 => ?_) (fun c69 => ?_)
    · try simp only [bI_0, Decidable.not_not] at c69
      refine g_blk [(.aload_n 0, .null), (.aload_n 0, .null)] (Nat.le_of_ble_eq_true rfl) (by decide +kernel) ?_
      refine gx_aload_n_0 (gx_aload_n_0 ((gx_nil ?_)))
      refine g_getf fX9_10 (by decide +kernel) hm7 rfl ?_
      refine g_callV (rc' := 0) (rs' := 0) kX9_107 (mo_keep hpl hm7 fL (by omega) fE ⟨vs7, fo7⟩) (by decide +kernel) rfl rfl hm7 rfl (Nat.le_of_ble_eq_true rfl) (Nat.le_of_ble_eq_true rfl) (Nat.le_of_ble_eq_true rfl) (by omega) (by omega) rfl (fun _ _ z => z.elim) (fun v9 h8 hz => ?_)
      obtain ⟨rfl, fl8, HL8, hf8, hk8⟩ := hz
      have hm8 : gMc h8 m o7 svv7 hl7 tt7 bu7 (vU V 10 (nI 0) 10) sb7 (vU V 10 (nI 0) 7) (vU V 10 (nI 0) 8) := hk8 _ _ fm hm7
      obtain ⟨G9, k9⟩ := hF h8 fl8 HL8 hf8 hk8
      simp only [Option.toList_some, Option.toList_none, List.cons_append, List.nil_append]
      refine g_blk [(.aload_n 0, .null), (.aload_n 2, .null)] (Nat.le_of_ble_eq_true rfl) (by decide +kernel) ?_
      refine gx_aload_n_0 (gx_aload_n_2 ((gx_nil ?_)))
      refine g_putf fX9_10 (by decide +kernel) hm8 (by simp) rfl rfl ?_
      refine g_hp (h1 := gUp h8 m (gJ 12 [.ref b, svv7, .ref hl7, .ref tt7, .ref bu7, .int (vU V 10 (nI 0) 10), .ref sb7, .int (vU V 10 (nI 0) 7), .int (vU V 10 (nI 0) 8)])) rfl ?_
      refine g_blk [(.iload_n 3, .null)] (Nat.le_of_ble_eq_true rfl) (by decide +kernel) ?_
      refine gx_iload_n_3 ((gx_nil ?_))
      refine g_end (some (.int _)) rfl ⟨by decide +kernel, _, rfl, rfl⟩ ?_
      refine ⟨by rw [eT]; exact z0, by rw [eX], fun v V1 F1 hz => (gMX.eqv G9 (fun j hj => ?_) (fun j hj => ?_)).mono (by omega), (kfC.tr kf).tr k9⟩
      · obtain ⟨q1, q2, q3, q4⟩ := hz
        dsimp only at q4
        rw [eR9] at q4
        obtain ⟨w1, w2, w3, w4, w5, w6, w7⟩ := q4
        by_cases e6 : j = 6
        · subst e6; exact w5
        · rw [vU_n e6]
          by_cases e10 : j = 10
          · subst e10; exact q2
          · rw [vU_n e10]
            by_cases e7 : j = 7
            · subst e7; exact w1
            · by_cases e8 : j = 8
              · subst e8; exact w4
              · exact q1 j hj e6 e7 e8 e10
      · obtain ⟨q1, q2, q3, q4⟩ := hz
        dsimp only at q4
        rw [eR9] at q4
        obtain ⟨w1, w2, w3, w4, w5, w6, w7⟩ := q4
        rcases hj with rfl | rfl | rfl | rfl | rfl
        · exact w6
        · exact q3 3 (by decide) (by decide) (by decide) (by decide)
        · exact w7
        · exact q3 9 (by decide) (by decide) (by decide) (by decide)
        · exact q3 11 (by decide) (by decide) (by decide) (by decide)
    · try simp only [bI_0, Decidable.not_not] at c69
      exact absurd (by rw [hkl]; exact Int32.le_refl _) c69
  | succ n ih =>
    intro k Nk b fpk hk hkn GK eR hf ka kf
    obtain ⟨x, hx⟩ : ∃ z, cs[k]? = some z := ⟨_, List.getElem?_eq_getElem (by omega)⟩
    obtain ⟨a9, ha9⟩ : ∃ z, xs[k]? = some z := ⟨_, List.getElem?_eq_getElem (by omega)⟩
    have hdrop : cs.drop k = x :: cs.drop (k + 1) := by
      rw [List.drop_eq_getElem_cons (by omega)]
      congr 1
      have := List.getElem?_eq_getElem (l := cs) (i := k) (by omega)
      rw [hx] at this
      exact (Option.some.inj this).symm
    rw [hdrop, exR_s] at eR
    have hcd : gCd ks hk x a9 := ka _ _ (fun y => y) (hxs k a9 x ha9 hx)
    have hca9 : hk a9 = some (gJ 5 [.ref (ks x.1), .int (nI x.2.1), .int (nI x.2.2.2), .int (nI x.2.2.1)]) := hcd
    have hpk : hk pa = some (gJ 8 [y1, y2, y3, .ref cl]) := ka _ _ (fun y => y) hpa
    have HLk := gAL_all HL ka
    obtain ⟨⟨c, t, nx, Hb, I, hB⟩, ⟨o7, svv7, hl7, tt7, bu7, sb7, hm7⟩, hH⟩ := gMX.hd GK
    have Hb : gOf Γ de hk Nk c t b fpk := Hb
    have I : rIV Nk c t nx := I
    rw [I.c_eq, I.t_eq] at eR
    refine g_blk [(.iload 4, .null), (.iload_n 3, .null)] (Nat.le_of_ble_eq_true rfl) (by decide +kernel) ?_
    refine gx_iload_4 (gx_iload_n_3 ((gx_nil ?_)))
    refine g_icmp_ge (off := 45) (tgt := 114) (by decide +kernel) (by decide) (fun c69 => ?_) (fun c69 => ?_)
    · try simp only [bI_0, Decidable.not_not] at c69
      exact absurd ((nI_leI (by omega) (by omega)).mp c69) (by omega)
    · try simp only [bI_0, Decidable.not_not] at c69
      refine g_blk [(.aload_n 1, .null)] (Nat.le_of_ble_eq_true rfl) (by decide +kernel) ?_
      refine gx_aload_n_1 ((gx_nil ?_))
      refine g_getf fX9_382 (by decide +kernel) hpk rfl ?_
      refine g_blk [(.iload 4, .null)] (Nat.le_of_ble_eq_true rfl) (by decide +kernel) ?_
      refine gx_iload_4 ((gx_nil ?_))
      refine g_pV kX9_159 (al_get HLk ha9) (by decide +kernel) rfl rfl (al_cell HLk) rfl (Nat.le_of_ble_eq_true rfl) (Nat.le_of_ble_eq_true rfl) (Nat.le_of_ble_eq_true rfl) rfl ?_
      try simp only [Option.toList_some, Option.toList_none, List.cons_append, List.nil_append, bI_0, n1_0, n0_0, Decidable.not_not, not_true_eq_false, not_false_eq_true, nI_add]
      refine g_castO hca9 rfl rfl (clX9_385) (by decide +kernel) ?_
      refine g_blk [(.aload_n 2, .null)] (Nat.le_of_ble_eq_true rfl) (by decide +kernel) ?_
      refine gx_aload_n_2 ((gx_nil ?_))
      refine g_callV (rc' := 41 * n + 2) (rs' := 2563 * n + 70) kX9_387 (Hb.exec hpl hsw (hK x (List.mem_of_getElem? hx)) hcd I (by omega)) (by decide +kernel) rfl rfl hca9 rfl (Nat.le_of_ble_eq_true rfl) (Nat.le_of_ble_eq_true rfl) (Nat.le_of_ble_eq_true rfl) (by omega) (by omega) rfl (fun _ _ z => z.elim) (fun v9 h5 hz => ?_)
      obtain ⟨z9, hv9⟩ : ∃ z, v9 = some (.int z) := by
        rcases hz with ⟨-, y, -⟩ | ⟨-, ⟨z, y, -⟩, -⟩ <;> exact ⟨_, y⟩
      subst hv9
      simp only [Option.toList_some, Option.toList_none, List.cons_append, List.nil_append]
      refine g_if_ge (off := 20) (tgt := 108) (by decide +kernel) (by decide) (fun c88 => ?_) (fun c88 => ?_)
      · try simp only [bI_0, Decidable.not_not] at c88
        obtain ⟨ez, -, c2, t2, fp2, ⟨n2, a2, g1, g2, g3, g4⟩, H2, hf2, hk2⟩ : _ ∧ _ := by
          rcases hz with y | ⟨y1, ⟨z, y2, y3⟩, y4⟩
          · exact y
          · cases y2
            exact absurd (Int32.lt_of_lt_of_le y3 c88) (fun y => Int32.lt_irrefl y)
        rw [if_pos ez] at eR
        obtain ⟨G5, k5⟩ := hH h5 ((dT Nk c t x).2.2, b, fp2) (B + (k + 1)) (by omega) ⟨c2, t2, n2, H2, g1, by omega⟩ hf2 hk2
        have hf5 : ∀ q ∈ fp2, hC q = none := fun q hq => by
          rcases hf2 q hq with z | z
          · exact hf q z
          · exact gAll_no ka z
        refine g_blk [(.iinc 4 1, .int (nI 1)), (.goto (-45), .retAddr 66)] (Nat.le_of_ble_eq_true rfl) (by decide +kernel) ?_
        refine gx_iinc_4 rfl (gx_goto ((gx_nil ?_)))
        try simp only [nI_add]
        exact ih (k + 1) _ b fp2 h5 (by omega) G5 eR hf5 (gAll_tr ka hk2 hf) (kf.tr k5)
      · try simp only [bI_0, Decidable.not_not] at c88
        obtain ⟨nz, -, rfl⟩ : ¬ (dT Nk c t x).1 = 0 ∧ _ ∧ h5 = hk := by
          rcases hz with ⟨y1, y2, c2, t2, fp2, ⟨n2, a2, g1, g2, g3, g4⟩, -⟩ | y
          · cases y2
            rw [g3] at c88
            exact absurd (Int32.not_lt.mp (nI_nn (by omega))) c88
          · exact y
        rw [if_neg nz] at eR
        have eT : runT (F 0) (.inr cs) = nI 2 := by unfold runT; dsimp only; rw [eR]
        obtain ⟨G5, k5⟩ := GK.drop.v8 hm7 (nI k)
        refine g_blk [(.aload_n 0, .null), (.iload 4, .null)] (Nat.le_of_ble_eq_true rfl) (by decide +kernel) ?_
        refine gx_aload_n_0 (gx_iload_4 ((gx_nil ?_)))
        refine g_putf fX9_51 (by decide +kernel) hm7 (by simp) rfl rfl ?_
        refine g_hp (h1 := gUp h5 m (gJ 12 [.ref o7, svv7, .ref hl7, .ref tt7, .ref bu7, .int (vU V 10 (nI 0) 10), .ref sb7, .int (vU V 10 (nI 0) 7), .int (nI k)])) rfl ?_
        obtain ⟨sa, hsa⟩ := hp.at (k := 391) (tx := "a command failed") (by decide)
        refine g_throwW thr_is hp.1 hsa (by decide +kernel) (by decide +kernel) (by decide +kernel) (by decide +kernel) (by decide +kernel) rfl (by decide) (Nat.le_of_ble_eq_true rfl) (by omega) (by omega) ?_
        refine ⟨by rw [eT]; exact n2x, by rw [eT, nm2]; rfl, fun v V1 F1 hz => (gMX.eqv G5 (fun j hj => ?_) (fun j hj => ?_)).mono (by omega), (kfC.tr kf).tr k5⟩
        · obtain ⟨q1, q2, q3, q4⟩ := hz
          dsimp only at q4
          rw [eR] at q4
          obtain ⟨w1, w2, w3, w4, w5, w6, w7⟩ := q4
          by_cases e8 : j = 8
          · subst e8; exact w4
          · rw [vU_n e8]
            by_cases e10 : j = 10
            · subst e10; exact q2
            · rw [vU_n e10]
              by_cases e7 : j = 7
              · subst e7; exact w1
              · by_cases e6 : j = 6
                · subst e6; exact w5
                · exact q1 j hj e6 e7 e8 e10
        · obtain ⟨q1, q2, q3, q4⟩ := hz
          dsimp only at q4
          rw [eR] at q4
          obtain ⟨w1, w2, w3, w4, w5, w6, w7⟩ := q4
          rcases hj with rfl | rfl | rfl | rfl | rfl
          · exact w6
          · exact q3 3 (by decide) (by decide) (by decide) (by decide)
          · exact w7
          · exact q3 9 (by decide) (by decide) (by decide) (by decide)
          · exact q3 11 (by decide) (by decide) (by decide) (by decide)
theorem fa_run (hps : gPsb Γ d1 d10 vf) (hkw : gPkw Γ ka ks ss) (hsw : gPsw Γ sm ks) (hpl : gPall Γ de mi) (hp : gPxs Γ) (hd : gDi Γ) (G : gMO Γ de h m V F B) (hB9 : B ≤ 9000) {n : Nat} {tx : Nat → Nat} (e10 : V 10 = nI n) (hn : n ≤ 60) (hT : ∀ i, i < n → F 9 i = nI (tx i) ∧ tx i < 128) {r : Nat} (h6 : V 6 = nI r) (hr : r ≤ 8) (R : Nat ⊕ List pcT) (hR : ppR tx n (n + 1) 0 [] = R) : fC Γ M_X9_run [.ref m] h (4000 + 520 * n) (runT (F 0) R) (.int (runX (F 0) R)) (nmOf xIA xIS xIS) (rnP Γ de h m V F B R r) := by
  obtain ⟨o, svv, hl, tt, bu, sb, f9, hm, hbu, hne, hf9⟩ := gMX.bf G e10 hn hT
  have hKl : ∃ K, (∀ cs, R = .inr cs → cs.length = K) ∧ 5 * K ≤ n + 1 := by
    cases R with
    | inl e => exact ⟨0, fun cs z => (by cases z), by omega⟩
    | inr cs => exact ⟨cs.length, fun cs z => by cases z; rfl, ppR_len (Nat.zero_le _) (Nat.zero_le _) hR⟩
  obtain ⟨K, hK1, hK2⟩ := hKl
  refine gC_wide (d := 14) (mc := 600) (ms := 3300 + 2563 * K) ?_ (by decide) (by decide) (by omega)
  refine gC_of (by decide) rfl (Nat.le_of_ble_eq_true rfl) [some (.ref m), none, none, none, none] rfl ?_
  rw [e10] at hm
  refine g_new (rc' := 599) (rs' := 3296 + 2563 * K) nX9_369 (by decide +kernel) (by omega) (by simp; omega) (fun pa hpa => ?_)
  obtain ⟨h2, eh2⟩ : ∃ z, z = gUp h pa (.inr (8, [.null, .int 0, .int 0, .null])) := ⟨_, rfl⟩
  refine g_hp eh2 ?_
  have ka2 : gAll h h2 := by rw [eh2]; exact gAll_up hpa
  have hm2 : gMc h2 m o svv hl tt bu (nI n) sb (V 7) (V 8) := ka2 _ _ (fun y => y) hm
  have hbu2 : h2 bu = some (gCh Γ 60 f9) := ka2 _ _ (fun y => y) hbu
  have hpa2 : h2 pa = some (gJ 8 [.null, .int 0, .int 0, .null]) := by rw [eh2]; exact gUp_s _ _ _
  clear eh2
  refine g_blk [(.dup, .null), (.aload_n 0, .null)] (Nat.le_of_ble_eq_true rfl) (by decide +kernel) ?_
  refine gx_dupr (gx_aload_n_0 ((gx_nil ?_)))
  refine g_getf fX9_33 (by decide +kernel) hm2 rfl ?_
  refine g_blk [(.aload_n 0, .null)] (Nat.le_of_ble_eq_true rfl) (by decide +kernel) ?_
  refine gx_aload_n_0 ((gx_nil ?_))
  refine g_getf fX9_37 (by decide +kernel) hm2 rfl ?_
  refine g_callI (rc' := 598) (rs' := 3293 + 2563 * K) kX9_371 (ps_init (tx := tx) (ks := ks) hpl.1 hpa2 hbu2 hf9 hn) (by decide +kernel) rfl rfl rfl (Nat.le_of_ble_eq_true rfl) (Nat.le_of_ble_eq_true rfl) (Nat.le_of_ble_eq_true rfl) (by omega) (by omega) rfl (fun _ _ z => z.elim) (fun v9 h3 hz => ?_)
  obtain ⟨rfl, cl, hcl, HP3, hk3⟩ := hz
  have ka3 : gAll h h3 := gAll_tr ka2 hk3 (fun z hz => by rw [hz]; exact hpa)
  have hm3 : gMc h3 m o svv hl tt bu (nI n) sb (V 7) (V 8) := ka3 _ _ (fun y => y) hm
  have hm3' : gMc h3 m o svv hl tt bu (V 10) sb (V 7) (V 8) := by rw [e10]; exact hm3
  have hmV : gMc h m o svv hl tt bu (V 10) sb (V 7) (V 8) := by rw [e10]; exact hm
  have hmpa : m ≠ pa := fun z => by
    have y : h m = some _ := hm
    rw [z, hpa] at y
    cases y
  simp only [Option.toList_some, Option.toList_none, List.cons_append, List.nil_append]
  refine g_blk [(.astore_n 1, .null), (.aload_n 0, .null), (.iconst 0, .int (nI 0))] (Nat.le_of_ble_eq_true rfl) (by decide +kernel) ?_
  refine gx_astore_n_1 rfl (gx_aload_n_0 (gx_iconst ((gx_nil ?_))))
  refine g_putf fX9_37 (by decide +kernel) hm3 (by simp) rfl rfl ?_
  obtain ⟨h4, eh4⟩ : ∃ z, z = gUp h3 m (gJ 12 [.ref o, svv, .ref hl, .ref tt, .ref bu, .int (nI 0), .ref sb, .int (V 7), .int (V 8)]) := ⟨_, rfl⟩
  refine g_hp (h1 := h4) eh4 ?_
  have HP4 : gPL Γ de h4 pa bu n 0 cl tx ks [cl] [] := by
    obtain ⟨⟨q1, ⟨f, q2, q3⟩, q4⟩, q5, q6, xs, q7, q8, q9⟩ := HP3
    have kmm : gKeep (fun q => q = m) h3 h4 := by rw [eh4]; exact gKeep.up rfl
    have hclm : ∀ q ∈ [cl], ¬ q = m := fun q hq z => by
      rw [List.mem_singleton.mp hq] at z
      have y : h m = some _ := hm
      have := gAll_no ka2 (q := cl) hcl
      rw [z] at this
      rw [this] at y
      cases y
    refine ⟨⟨kmm _ _ hmpa.symm q1, ⟨f, kmm _ _ (fun z => hne z.symm) q2, q3⟩, q4⟩, q5, q6, xs, gAL_kp q7 kmm hclm, q8, fun i a x hi hx => by cases hx⟩
  have hpa4 := HP4.1.1
  refine g_blk [(.aload_n 1, .null)] (Nat.le_of_ble_eq_true rfl) (by decide +kernel) ?_
  refine gx_aload_n_1 ((gx_nil ?_))
  refine g_callV (rc' := 570) (rs' := 2300 + 2563 * K) kX9_374 (ps_readProgram hps hkw hpl HP4) (by decide +kernel) rfl rfl hpa4 rfl (Nat.le_of_ble_eq_true rfl) (Nat.le_of_ble_eq_true rfl) (Nat.le_of_ble_eq_true rfl) (by omega) (by omega) rfl (fun _ _ z => z.elim) (fun v9 h5 hz => ?_)
  rw [hR] at hz
  obtain ⟨fp5, ⟨hf5, hk5⟩, hz⟩ := hz
  have hS : ∀ q, (q = pa ∨ q ∈ [cl]) → h q = none := fun q hq => by
    rcases hq with rfl | hq
    · exact hpa
    · rw [List.mem_singleton.mp hq]; exact gAll_no ka2 hcl
  rw [eh4] at hk5
  have kaU := all_up ka3 ⟨_, hmV⟩ hk5 hS
  obtain ⟨GU, kU⟩ := gMX.v10 G hmV
  have G5 : gMX Γ de h5 m (vU V 10 (nI 0)) F B [] := gMX.fr GU hd (gFr.all (K := fun _ => False) kaU) (fun _ _ y => y)
  have kf5 : gFr (kC Γ) h h5 := kU.tr (gFr.all kaU)
  cases R with
  | inl e =>
    obtain ⟨rfl, cs5, HP5⟩ := hz
    simp only [Option.toList_some, List.cons_append, List.nil_append]
    have eT : runT (F 0) (.inl e) = nI 1 := rfl
    obtain ⟨o6, svv6, hl6, tt6, bu6, sb6, fl6, xs6, hm6, -⟩ := gMX.ls G5
    have hpa5 := HP5.1.1
    obtain ⟨G7, k7⟩ := gMX.v7 G5 hm6 (nI e)
    refine g_if_ne (off := 22) (tgt := 47) (by decide +kernel) (by decide) (fun c25 => ?_) (fun c25 => ?_)
    · try simp only [bI_0, Decidable.not_not] at c25
      exact absurd z0 c25
    · try simp only [bI_0, Decidable.not_not] at c25
      refine g_blk [(.aload_n 0, .null), (.aload_n 1, .null)] (Nat.le_of_ble_eq_true rfl) (by decide +kernel) ?_
      refine gx_aload_n_0 (gx_aload_n_1 ((gx_nil ?_)))
      refine g_getf fX9_377 (by decide +kernel) hpa5 rfl ?_
      refine g_putf fX9_48 (by decide +kernel) hm6 (by simp) rfl rfl ?_
      refine g_hp (h1 := gUp h5 m (gJ 12 [.ref o6, svv6, .ref hl6, .ref tt6, .ref bu6, .int (vU V 10 (nI 0) 10), .ref sb6, .int (nI e), .int (vU V 10 (nI 0) 8)])) rfl ?_
      obtain ⟨sa, hsa⟩ := hp.at (k := 380) (tx := "the program is malformed") (by decide)
      refine g_throwW thr_ia hp.1 hsa (by decide +kernel) (by decide +kernel) (by decide +kernel) (by decide +kernel) (by decide +kernel) rfl (by decide) (Nat.le_of_ble_eq_true rfl) (by omega) (by omega) ?_
      refine ⟨by rw [eT]; exact n1x, by rw [eT, nm1]; rfl, fun v V1 F1 hz => (gMX.eqv G7 (fun j hj => ?_) (fun j hj => ?_)).mono (by omega), kf5.tr k7⟩
      · obtain ⟨q1, q2, q3, w2, w3, w4, w5, w6, w7, w8⟩ := hz
        by_cases e7 : j = 7
        · subst e7; exact w4
        · rw [vU_n e7]
          by_cases e10 : j = 10
          · subst e10; exact q2
          · rw [vU_n e10]
            by_cases e8 : j = 8
            · subst e8; exact w5
            · by_cases e6 : j = 6
              · subst e6; exact w6
              · exact q1 j hj e6 e7 e8 e10
      · obtain ⟨q1, q2, q3, w2, w3, w4, w5, w6, w7, w8⟩ := hz
        rcases hj with rfl | rfl | rfl | rfl | rfl
        · exact w7
        · exact q3 3 (by decide) (by decide) (by decide) (by decide)
        · exact w8
        · exact q3 9 (by decide) (by decide) (by decide) (by decide)
        · exact q3 11 (by decide) (by decide) (by decide) (by decide)
  | inr cs =>
    obtain ⟨rfl, p5, HP5⟩ := hz
    simp only [Option.toList_some, List.cons_append, List.nil_append]
    have hKc : cs.length = K := hK1 cs rfl
    have hcs12 : cs.length ≤ 12 := by omega
    obtain ⟨⟨hpa5, -, -⟩, hpf5, -, xs5, HL5, hxl5, hxs5⟩ := HP5
    obtain ⟨o6, fo6, nx6, svv6, hl6, tt6, bu6, sb6, hm6, H6, I6, hB6, -⟩ := gMX.op G5
    obtain ⟨la6, ta6, ca6, da6, ba6, ho6⟩ := H6.cell
    refine g_if_ne (off := 22) (tgt := 47) (by decide +kernel) (by decide) (fun c25 => ?_) (fun c25 => ?_)
    · try simp only [bI_0, Decidable.not_not] at c25
      refine g_blk [(.aload_n 0, .null)] (Nat.le_of_ble_eq_true rfl) (by decide +kernel) ?_
      refine gx_aload_n_0 ((gx_nil ?_))
      refine g_getf fX9_10 (by decide +kernel) hm6 rfl ?_
      refine g_callV (rc' := 41 * cs.length + 2) (rs' := 2563 * cs.length + 70) kX9_54 (H6.dup hpl I6 (by omega)) (by decide +kernel) rfl rfl ho6 rfl (Nat.le_of_ble_eq_true rfl) (Nat.le_of_ble_eq_true rfl) (Nat.le_of_ble_eq_true rfl) (by omega) (by omega) rfl (fun _ _ z => z.elim) (fun v9 h7 hz => ?_)
      obtain ⟨b, fpb, rfl, Hb, hfr, kab⟩ := hz
      have G7 := gMX.dup G5 Hb I6 hB6 hfr kab
      have hpa7 := kab _ _ (fun y => y) hpa5
      have HL7 := gAL_all HL5 kab
      simp only [Option.toList_some, Option.toList_none, List.cons_append, List.nil_append]
      refine g_blk [(.astore_n 2, .null), (.aload_n 1, .null)] (Nat.le_of_ble_eq_true rfl) (by decide +kernel) ?_
      refine gx_astore_n_2 rfl (gx_aload_n_1 ((gx_nil ?_)))
      refine g_getf fX9_382 (by decide +kernel) hpa7 rfl ?_
      refine g_pV kX9_133 (al_size HL7) (by decide +kernel) rfl rfl (al_cell HL7) rfl (Nat.le_of_ble_eq_true rfl) (Nat.le_of_ble_eq_true rfl) (Nat.le_of_ble_eq_true rfl) rfl ?_
      simp only [Option.toList_some, Option.toList_none, List.cons_append, List.nil_append]
      rw [hxl5]
      refine g_blk [(.istore_n 3, .null), (.iconst 0, .int (nI 0)), (.istore 4, .null)] (Nat.le_of_ble_eq_true rfl) (by decide +kernel) ?_
      refine gx_istore_n_3 rfl (gx_iconst (gx_istore_4 rfl ((gx_nil ?_))))
      have hl := run_loop (V := V) (F := F) (B := B) (h := h) hps hkw hsw hpl hp hB9 hcs12 (ppR_K (fun _ z => by cases z) hR) h6 hr kf5 hpa5 HL5 hxl5 (fun i a x hi hx => (hxs5 i a x hi hx).1) cs.length 0 (F 0) b fpb h7 (by omega) G7 rfl hfr kab (gFr.all kab)
      rw [hKc] at hl ⊢
      exact hl
    · try simp only [bI_0, Decidable.not_not] at c25
      exact absurd c25 (by decide)
end GFzc
