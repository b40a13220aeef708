/-! THE FACE: READS, AS THE REFERENCE ANSWERS -/
section GFs
variable {Γ : gE} {de : Nat} {h : gHp} {m B : Nat} {V : Nat → Int32} {F : Nat → Nat → Int32}
theorem nm_s {a : String} {τ : Int32} : nmOf a a a τ = a := by
  unfold nmOf
  split
  · rfl
  · split <;> rfl
theorem nmA {b c : String} (a : String) {τ : Int32} (h : τ = nI 1) : nmOf a b c τ = a := if_pos h
theorem nmB {a c : String} (b : String) {τ : Int32} (h : τ = nI 2) : nmOf a b c τ = b := by subst h; exact nm2
theorem nmC {a b : String} (c : String) {τ : Int32} (h : τ = nI 3) : nmOf a b c τ = c := by subst h; exact nm3
theorem n1x : ¬ nI 1 = 0 := by decide
theorem n2x : ¬ nI 2 = 0 := by decide
theorem n3x : ¬ nI 3 = 0 := by decide
/-- a call of the face that never throws -/
def fN (Γ : gE) (M : gM) (av : List Value) (h : gHp) (W : Nat) (x : Value) (P : gHp → Prop) : Prop := gC Γ M av h 30 (cW W) W (fun v h' => v = some x ∧ P h') (fun _ _ => False)
theorem fN_pure {M : gM} {av : List Value} {d W : Nat} {x : Value} {P : gHp → Prop} (c : pC Γ M av h d (some x)) (hd : d ≤ 30) (hP : P h) : fN Γ M av h W x P :=
  gC_wide (gC_post c (fun v h' z => by obtain ⟨rfl, rfl⟩ := z; exact ⟨rfl, hP⟩) (fun _ _ z => z)) hd (Nat.zero_le _) (Nat.zero_le _)
theorem fN_x {M : gM} {av : List Value} {W : Nat} {x y : Value} {P : gHp → Prop} (c : fN Γ M av h W x P) (e : x = y) : fN Γ M av h W y P := e ▸ c
theorem fa_hour (G : gMO Γ de h m V F B) (hB9 : B ≤ 9000) : fAn Γ M_X9_hour [.ref m] h (.int (F 0 0)) := by
  obtain ⟨nx, o, svv, hl, tt, bu, sb, la, ta, ca, da, ba, pa, ep, fl, fq, ls, ps, hm, H, I, hB⟩ := G.rd
  have hc := I.hc
  have ht := I.ht
  have hw := I.lv (by omega)
  have hlen := H.2.2.1
  exact fAn_pure (mo_hour hm H) (by decide) rfl
theorem fa_deliveredCount (G : gMO Γ de h m V F B) (hB9 : B ≤ 9000) : fAn Γ M_X9_deliveredCount [.ref m] h (.int (F 0 5)) := by
  obtain ⟨nx, o, svv, hl, tt, bu, sb, la, ta, ca, da, ba, pa, ep, fl, fq, ls, ps, hm, H, I, hB⟩ := G.rd
  have hc := I.hc
  have ht := I.ht
  have hw := I.lv (by omega)
  have hlen := H.2.2.1
  exact fAn_pure (mo_deliveredCount hm H) (by decide) rfl
theorem fa_deadCount (G : gMO Γ de h m V F B) (hB9 : B ≤ 9000) : fAn Γ M_X9_deadCount [.ref m] h (.int (F 0 6)) := by
  obtain ⟨nx, o, svv, hl, tt, bu, sb, la, ta, ca, da, ba, pa, ep, fl, fq, ls, ps, hm, H, I, hB⟩ := G.rd
  have hc := I.hc
  have ht := I.ht
  have hw := I.lv (by omega)
  have hlen := H.2.2.1
  exact fAn_pure (mo_deadCount hm H) (by decide) rfl
theorem fa_letterCount (G : gMO Γ de h m V F B) (hB9 : B ≤ 9000) : fAn Γ M_X9_letterCount [.ref m] h (.int (F 0 3)) := by
  obtain ⟨nx, o, svv, hl, tt, bu, sb, la, ta, ca, da, ba, pa, ep, fl, fq, ls, ps, hm, H, I, hB⟩ := G.rd
  have hc := I.hc
  have ht := I.ht
  have hw := I.lv (by omega)
  have hlen := H.2.2.1
  exact fAn_x (fAn_pure (mo_letterCount hm H) (by decide) rfl) (by rw [I.h3])
theorem fa_lateCount (G : gMO Γ de h m V F B) (hB9 : B ≤ 9000) : fAn Γ M_X9_lateCount [.ref m] h (.int (rLt (F 0) (rtt (F 0)) (rc (F 0)))) := by
  obtain ⟨nx, o, svv, hl, tt, bu, sb, la, ta, ca, da, ba, pa, ep, fl, fq, ls, ps, hm, H, I, hB⟩ := G.rd
  have hc := I.hc
  have ht := I.ht
  have hw := I.lv (by omega)
  have hlen := H.2.2.1
  exact fAn_pure (mo_lateCount hm H hc ht I.pv hw) (by decide) rfl
theorem fa_missortedCount (G : gMO Γ de h m V F B) (hB9 : B ≤ 9000) : fAn Γ M_X9_missortedCount [.ref m] h (.int (rMs (F 0) (rtt (F 0)) (rc (F 0)))) := by
  obtain ⟨nx, o, svv, hl, tt, bu, sb, la, ta, ca, da, ba, pa, ep, fl, fq, ls, ps, hm, H, I, hB⟩ := G.rd
  have hc := I.hc
  have ht := I.ht
  have hw := I.lv (by omega)
  have hlen := H.2.2.1
  exact fAn_pure (mo_missortedCount hm H hc ht I.pv hw) (by decide) rfl
theorem fa_isPresent (G : gMO Γ de h m V F B) (hB9 : B ≤ 9000) (id : Int32) : fAn Γ M_X9_isPresent [.ref m, .int id] h (.int (bI (¬ rPlace (F 0) id (rc (F 0)) = -1))) := by
  obtain ⟨nx, o, svv, hl, tt, bu, sb, la, ta, ca, da, ba, pa, ep, fl, fq, ls, ps, hm, H, I, hB⟩ := G.rd
  have hc := I.hc
  have ht := I.ht
  have hw := I.lv (by omega)
  have hlen := H.2.2.1
  by_cases hn : rPlace (F 0) id (rc (F 0)) = -1
  · exact fAn_x (fAn_pure (mo_isPresent_no hm H hc I.uq id hn) (by decide) rfl) (by rw [bI_f (fun z => z hn)])
  · obtain ⟨p, hp9, ep9⟩ := rPlace_in.resolve_left hn
    have hix := rIdx_of (by omega) ep9
    obtain ⟨a, hx9⟩ : ∃ z, ls[p]? = some z := ⟨_, List.getElem?_eq_getElem (by omega)⟩
    exact fAn_x (fAn_pure (mo_isPresent hm H hc I.uq id hx9 ep9) (by decide) rfl) (by rw [bI_t hn])
theorem fa_codeOf (hp : gPxs Γ) (G : gMO Γ de h m V F B) (hB9 : B ≤ 9000) (id : Int32) : fQ Γ M_X9_codeOf [.ref m, .int id] h (rT (bI (¬ rPlace (F 0) id (rc (F 0)) = -1)) (nI 1) (nI 1)) (.int (if rT (bI (¬ rPlace (F 0) id (rc (F 0)) = -1)) (nI 1) (nI 1) = 0 then F 0 (62 + 7 * rIdx (F 0) id (rc (F 0)) + 1) else nI 0)) (nmOf xNS xNS xNS) := by
  obtain ⟨nx, o, svv, hl, tt, bu, sb, la, ta, ca, da, ba, pa, ep, fl, fq, ls, ps, hm, H, I, hB⟩ := G.rd
  have hc := I.hc
  have ht := I.ht
  have hw := I.lv (by omega)
  have hlen := H.2.2.1
  by_cases hn : rPlace (F 0) id (rc (F 0)) = -1
  · refine fQ_no (mo_codeOf_no hp hm H hc I.uq id hn) (by decide) (by decide) (by decide) ?_ nm_s rfl
    rw [bI_f (fun z => z hn), rT_1]
    exact n1x
  · obtain ⟨p, hp9, ep9⟩ := rPlace_in.resolve_left hn
    have hix := rIdx_of (by omega) ep9
    obtain ⟨a, hx9⟩ : ∃ z, ls[p]? = some z := ⟨_, List.getElem?_eq_getElem (by omega)⟩
    have e0 : rT (bI (¬ rPlace (F 0) id (rc (F 0)) = -1)) (nI 1) (nI 1) = 0 := by rw [bI_t hn]; exact rT_0
    refine fQ_x (fQ_pure (mo_codeOf hm H hc I.uq id hx9 ep9) (by decide) e0 rfl) (fun _ => ?_)
    rw [if_pos e0, hix]
theorem fa_weightOf (hp : gPxs Γ) (G : gMO Γ de h m V F B) (hB9 : B ≤ 9000) (id : Int32) : fQ Γ M_X9_weightOf [.ref m, .int id] h (rT (bI (¬ rPlace (F 0) id (rc (F 0)) = -1)) (nI 1) (nI 1)) (.int (if rT (bI (¬ rPlace (F 0) id (rc (F 0)) = -1)) (nI 1) (nI 1) = 0 then F 0 (62 + 7 * rIdx (F 0) id (rc (F 0)) + 2) else nI 0)) (nmOf xNS xNS xNS) := by
  obtain ⟨nx, o, svv, hl, tt, bu, sb, la, ta, ca, da, ba, pa, ep, fl, fq, ls, ps, hm, H, I, hB⟩ := G.rd
  have hc := I.hc
  have ht := I.ht
  have hw := I.lv (by omega)
  have hlen := H.2.2.1
  by_cases hn : rPlace (F 0) id (rc (F 0)) = -1
  · refine fQ_no (mo_weightOf_no hp hm H hc I.uq id hn) (by decide) (by decide) (by decide) ?_ nm_s rfl
    rw [bI_f (fun z => z hn), rT_1]
    exact n1x
  · obtain ⟨p, hp9, ep9⟩ := rPlace_in.resolve_left hn
    have hix := rIdx_of (by omega) ep9
    obtain ⟨a, hx9⟩ : ∃ z, ls[p]? = some z := ⟨_, List.getElem?_eq_getElem (by omega)⟩
    have e0 : rT (bI (¬ rPlace (F 0) id (rc (F 0)) = -1)) (nI 1) (nI 1) = 0 := by rw [bI_t hn]; exact rT_0
    refine fQ_x (fQ_pure (mo_weightOf hm H hc I.uq id hx9 ep9) (by decide) e0 rfl) (fun _ => ?_)
    rw [if_pos e0, hix]
theorem fa_returnsOf (hp : gPxs Γ) (G : gMO Γ de h m V F B) (hB9 : B ≤ 9000) (id : Int32) : fQ Γ M_X9_returnsOf [.ref m, .int id] h (rT (bI (¬ rPlace (F 0) id (rc (F 0)) = -1)) (nI 1) (nI 1)) (.int (if rT (bI (¬ rPlace (F 0) id (rc (F 0)) = -1)) (nI 1) (nI 1) = 0 then F 0 (62 + 7 * rIdx (F 0) id (rc (F 0)) + 4) else nI 0)) (nmOf xNS xNS xNS) := by
  obtain ⟨nx, o, svv, hl, tt, bu, sb, la, ta, ca, da, ba, pa, ep, fl, fq, ls, ps, hm, H, I, hB⟩ := G.rd
  have hc := I.hc
  have ht := I.ht
  have hw := I.lv (by omega)
  have hlen := H.2.2.1
  by_cases hn : rPlace (F 0) id (rc (F 0)) = -1
  · refine fQ_no (mo_returnsOf_no hp hm H hc I.uq id hn) (by decide) (by decide) (by decide) ?_ nm_s rfl
    rw [bI_f (fun z => z hn), rT_1]
    exact n1x
  · obtain ⟨p, hp9, ep9⟩ := rPlace_in.resolve_left hn
    have hix := rIdx_of (by omega) ep9
    obtain ⟨a, hx9⟩ : ∃ z, ls[p]? = some z := ⟨_, List.getElem?_eq_getElem (by omega)⟩
    have e0 : rT (bI (¬ rPlace (F 0) id (rc (F 0)) = -1)) (nI 1) (nI 1) = 0 := by rw [bI_t hn]; exact rT_0
    refine fQ_x (fQ_pure (mo_returnsOf hm H hc I.uq id hx9 ep9) (by decide) e0 rfl) (fun _ => ?_)
    rw [if_pos e0, hix]
theorem fa_isPriority (hp : gPxs Γ) (G : gMO Γ de h m V F B) (hB9 : B ≤ 9000) (id : Int32) : fQ Γ M_X9_isPriority [.ref m, .int id] h (rT (bI (¬ rPlace (F 0) id (rc (F 0)) = -1)) (nI 1) (nI 1)) (.int (bI ((if rT (bI (¬ rPlace (F 0) id (rc (F 0)) = -1)) (nI 1) (nI 1) = 0 then F 0 (62 + 7 * rIdx (F 0) id (rc (F 0)) + 3) else nI 0) = nI 1))) (nmOf xNS xNS xNS) := by
  obtain ⟨nx, o, svv, hl, tt, bu, sb, la, ta, ca, da, ba, pa, ep, fl, fq, ls, ps, hm, H, I, hB⟩ := G.rd
  have hc := I.hc
  have ht := I.ht
  have hw := I.lv (by omega)
  have hlen := H.2.2.1
  by_cases hn : rPlace (F 0) id (rc (F 0)) = -1
  · refine fQ_no (mo_isPriority_no hp hm H hc I.uq id hn) (by decide) (by decide) (by decide) ?_ nm_s rfl
    rw [bI_f (fun z => z hn), rT_1]
    exact n1x
  · obtain ⟨p, hp9, ep9⟩ := rPlace_in.resolve_left hn
    have hix := rIdx_of (by omega) ep9
    obtain ⟨a, hx9⟩ : ∃ z, ls[p]? = some z := ⟨_, List.getElem?_eq_getElem (by omega)⟩
    have e0 : rT (bI (¬ rPlace (F 0) id (rc (F 0)) = -1)) (nI 1) (nI 1) = 0 := by rw [bI_t hn]; exact rT_0
    obtain ⟨m9, cd, w, pr, q, em, hm9, ec, hcd, ew, hw1, hw2, ep8, hpr, eq, hq, eA⟩ := hw p hp9
    refine fQ_x (fQ_pure (mo_isPriority hm H hc I.uq id hx9 ep9 ep8 hpr) (by decide) e0 rfl) (fun _ => ?_)
    rw [if_pos e0, hix, ep8]
    have : pr = 0 ∨ pr = 1 := by omega
    rcases this with rfl | rfl <;> rfl
theorem fa_isInTray (hp : gPxs Γ) (G : gMO Γ de h m V F B) (hB9 : B ≤ 9000) (id : Int32) : fQ Γ M_X9_isInTray [.ref m, .int id] h (rT (bI (¬ rPlace (F 0) id (rc (F 0)) = -1)) (nI 1) (nI 1)) (.int (bI ((if rT (bI (¬ rPlace (F 0) id (rc (F 0)) = -1)) (nI 1) (nI 1) = 0 then F 0 (62 + 7 * rIdx (F 0) id (rc (F 0)) + 5) else nI 0) = -1))) (nmOf xNS xNS xNS) := by
  obtain ⟨nx, o, svv, hl, tt, bu, sb, la, ta, ca, da, ba, pa, ep, fl, fq, ls, ps, hm, H, I, hB⟩ := G.rd
  have hc := I.hc
  have ht := I.ht
  have hw := I.lv (by omega)
  have hlen := H.2.2.1
  by_cases hn : rPlace (F 0) id (rc (F 0)) = -1
  · refine fQ_no (mo_isInTray_no hp hm H hc I.uq id hn) (by decide) (by decide) (by decide) ?_ nm_s rfl
    rw [bI_f (fun z => z hn), rT_1]
    exact n1x
  · obtain ⟨p, hp9, ep9⟩ := rPlace_in.resolve_left hn
    have hix := rIdx_of (by omega) ep9
    obtain ⟨a, hx9⟩ : ∃ z, ls[p]? = some z := ⟨_, List.getElem?_eq_getElem (by omega)⟩
    have e0 : rT (bI (¬ rPlace (F 0) id (rc (F 0)) = -1)) (nI 1) (nI 1) = 0 := by rw [bI_t hn]; exact rT_0
    refine fQ_x (fQ_pure (mo_isInTray hm H hc I.uq id hx9 ep9) (by decide) e0 rfl) (fun _ => ?_)
    rw [if_pos e0, hix]
theorem fa_isMissorted (hp : gPxs Γ) (G : gMO Γ de h m V F B) (hB9 : B ≤ 9000) (id : Int32) : fQ Γ M_X9_isMissorted [.ref m, .int id] h (rT (bI (¬ rPlace (F 0) id (rc (F 0)) = -1)) (nI 1) (nI 1)) (.int (if rT (bI (¬ rPlace (F 0) id (rc (F 0)) = -1)) (nI 1) (nI 1) = 0 then bI (rWr (F 0) (rIdx (F 0) id (rc (F 0))) (rtt (F 0)) = true) else nI 0)) (nmOf xNS xNS xNS) := by
  obtain ⟨nx, o, svv, hl, tt, bu, sb, la, ta, ca, da, ba, pa, ep, fl, fq, ls, ps, hm, H, I, hB⟩ := G.rd
  have hc := I.hc
  have ht := I.ht
  have hw := I.lv (by omega)
  have hlen := H.2.2.1
  by_cases hn : rPlace (F 0) id (rc (F 0)) = -1
  · refine fQ_no (mo_isMissorted_no hp hm H hc I.uq id hn) (by decide) (by decide) (by decide) ?_ nm_s rfl
    rw [bI_f (fun z => z hn), rT_1]
    exact n1x
  · obtain ⟨p, hp9, ep9⟩ := rPlace_in.resolve_left hn
    have hix := rIdx_of (by omega) ep9
    obtain ⟨a, hx9⟩ : ∃ z, ls[p]? = some z := ⟨_, List.getElem?_eq_getElem (by omega)⟩
    have e0 : rT (bI (¬ rPlace (F 0) id (rc (F 0)) = -1)) (nI 1) (nI 1) = 0 := by rw [bI_t hn]; exact rT_0
    refine fQ_x (fQ_pure (mo_isMissorted hm H hc ht I.pv hw I.uq id hx9 ep9) (by decide) e0 rfl) (fun _ => ?_)
    rw [if_pos e0, hix]
theorem fa_canSort (hp : gPxs Γ) (G : gMO Γ de h m V F B) (hB9 : B ≤ 9000) (id : Int32) : fQ Γ M_X9_canSort [.ref m, .int id] h (rT (bI (¬ rPlace (F 0) id (rc (F 0)) = -1)) (nI 1) (nI 1)) (.int (if rT (bI (¬ rPlace (F 0) id (rc (F 0)) = -1)) (nI 1) (nI 1) = 0 then bI (rGo (F 0) (rIdx (F 0) id (rc (F 0))) (rSrt (F 0) id (rc (F 0)) (rtt (F 0))) (rc (F 0)) (rOp (F 0) (rSrt (F 0) id (rc (F 0)) (rtt (F 0)))) = true) else nI 0)) (nmOf xNS xNS xNS) := by
  obtain ⟨nx, o, svv, hl, tt, bu, sb, la, ta, ca, da, ba, pa, ep, fl, fq, ls, ps, hm, H, I, hB⟩ := G.rd
  have hc := I.hc
  have ht := I.ht
  have hw := I.lv (by omega)
  have hlen := H.2.2.1
  by_cases hn : rPlace (F 0) id (rc (F 0)) = -1
  · refine fQ_no (mo_canSort_no hp hm H hc I.uq id hn) (by decide) (by decide) (by decide) ?_ nm_s rfl
    rw [bI_f (fun z => z hn), rT_1]
    exact n1x
  · obtain ⟨p, hp9, ep9⟩ := rPlace_in.resolve_left hn
    have hix := rIdx_of (by omega) ep9
    obtain ⟨a, hx9⟩ : ∃ z, ls[p]? = some z := ⟨_, List.getElem?_eq_getElem (by omega)⟩
    have e0 : rT (bI (¬ rPlace (F 0) id (rc (F 0)) = -1)) (nI 1) (nI 1) = 0 := by rw [bI_t hn]; exact rT_0
    refine fQ_x (fQ_pure (mo_canSort hm H hc ht I.pv hw I.OK I.uq id hx9 ep9) (by decide) e0 rfl) (fun _ => ?_)
    rw [if_pos e0]
    unfold rSrt
    rw [hix, bI_cg gBf_ne]
    rfl
theorem fa_routeOfBag (hp : gPxs Γ) (G : gMO Γ de h m V F B) (hB9 : B ≤ 9000) (id : Int32) : fQ Γ M_X9_routeOfBag [.ref m, .int id] h (rT (bI (¬ rPlace (F 0) id (rc (F 0)) = -1)) (bI (¬ F 0 (62 + 7 * rIdx (F 0) id (rc (F 0)) + 5) = -1)) (nI 1)) (.int (if rT (bI (¬ rPlace (F 0) id (rc (F 0)) = -1)) (bI (¬ F 0 (62 + 7 * rIdx (F 0) id (rc (F 0)) + 5) = -1)) (nI 1) = 0 then F 0 (62 + 7 * rIdx (F 0) id (rc (F 0)) + 5) else nI 0)) (nmOf xNS xIS xIS) := by
  obtain ⟨nx, o, svv, hl, tt, bu, sb, la, ta, ca, da, ba, pa, ep, fl, fq, ls, ps, hm, H, I, hB⟩ := G.rd
  have hc := I.hc
  have ht := I.ht
  have hw := I.lv (by omega)
  have hlen := H.2.2.1
  by_cases hn : rPlace (F 0) id (rc (F 0)) = -1
  · have et : rT (bI (¬ rPlace (F 0) id (rc (F 0)) = -1)) (bI (¬ F 0 (62 + 7 * rIdx (F 0) id (rc (F 0)) + 5) = -1)) (nI 1) = nI 1 := by rw [bI_f (fun z => z hn)]; exact rT_1
    exact fQ_no (mo_routeOfBag_no hp hm H hc I.uq id hn) (by decide) (by decide) (by decide) (by rw [et]; exact n1x) (nmA _ et) rfl
  · obtain ⟨p, hp9, ep9⟩ := rPlace_in.resolve_left hn
    have hix := rIdx_of (by omega) ep9
    obtain ⟨a, hx9⟩ : ∃ z, ls[p]? = some z := ⟨_, List.getElem?_eq_getElem (by omega)⟩
    by_cases h5 : F 0 (62 + 7 * p + 5) = -1
    · have et : rT (bI (¬ rPlace (F 0) id (rc (F 0)) = -1)) (bI (¬ F 0 (62 + 7 * rIdx (F 0) id (rc (F 0)) + 5) = -1)) (nI 1) = nI 2 := by rw [bI_t hn, hix, bI_f (fun z => z h5)]; exact rT_2
      exact fQ_no (mo_routeOfBag_tray hp hm H hc I.uq id hx9 ep9 h5) (by decide) (by decide) (by decide) (by rw [et]; exact n2x) (nmB _ et) rfl
    · have e0 : rT (bI (¬ rPlace (F 0) id (rc (F 0)) = -1)) (bI (¬ F 0 (62 + 7 * rIdx (F 0) id (rc (F 0)) + 5) = -1)) (nI 1) = 0 := by rw [bI_t hn, hix, bI_t h5]; exact rT_0
      refine fQ_x (fQ_pure (mo_routeOfBag hm H hc I.uq id hx9 ep9 h5) (by decide) e0 rfl) (fun _ => ?_)
      rw [if_pos e0, hix]
theorem fa_bagOf (hp : gPxs Γ) (G : gMO Γ de h m V F B) (hB9 : B ≤ 9000) (id : Int32) : fQ Γ M_X9_bagOf [.ref m, .int id] h (rT (bI (¬ rPlace (F 0) id (rc (F 0)) = -1)) (bI (¬ F 0 (62 + 7 * rIdx (F 0) id (rc (F 0)) + 5) = -1)) (nI 1)) (.int (if rT (bI (¬ rPlace (F 0) id (rc (F 0)) = -1)) (bI (¬ F 0 (62 + 7 * rIdx (F 0) id (rc (F 0)) + 5) = -1)) (nI 1) = 0 then F 0 (62 + 7 * rIdx (F 0) id (rc (F 0)) + 6) else nI 0)) (nmOf xNS xIS xIS) := by
  obtain ⟨nx, o, svv, hl, tt, bu, sb, la, ta, ca, da, ba, pa, ep, fl, fq, ls, ps, hm, H, I, hB⟩ := G.rd
  have hc := I.hc
  have ht := I.ht
  have hw := I.lv (by omega)
  have hlen := H.2.2.1
  by_cases hn : rPlace (F 0) id (rc (F 0)) = -1
  · have et : rT (bI (¬ rPlace (F 0) id (rc (F 0)) = -1)) (bI (¬ F 0 (62 + 7 * rIdx (F 0) id (rc (F 0)) + 5) = -1)) (nI 1) = nI 1 := by rw [bI_f (fun z => z hn)]; exact rT_1
    exact fQ_no (mo_bagOf_no hp hm H hc I.uq id hn) (by decide) (by decide) (by decide) (by rw [et]; exact n1x) (nmA _ et) rfl
  · obtain ⟨p, hp9, ep9⟩ := rPlace_in.resolve_left hn
    have hix := rIdx_of (by omega) ep9
    obtain ⟨a, hx9⟩ : ∃ z, ls[p]? = some z := ⟨_, List.getElem?_eq_getElem (by omega)⟩
    by_cases h5 : F 0 (62 + 7 * p + 5) = -1
    · have et : rT (bI (¬ rPlace (F 0) id (rc (F 0)) = -1)) (bI (¬ F 0 (62 + 7 * rIdx (F 0) id (rc (F 0)) + 5) = -1)) (nI 1) = nI 2 := by rw [bI_t hn, hix, bI_f (fun z => z h5)]; exact rT_2
      exact fQ_no (mo_bagOf_tray hp hm H hc I.uq id hx9 ep9 h5) (by decide) (by decide) (by decide) (by rw [et]; exact n2x) (nmB _ et) rfl
    · have e0 : rT (bI (¬ rPlace (F 0) id (rc (F 0)) = -1)) (bI (¬ F 0 (62 + 7 * rIdx (F 0) id (rc (F 0)) + 5) = -1)) (nI 1) = 0 := by rw [bI_t hn, hix, bI_t h5]; exact rT_0
      refine fQ_x (fQ_pure (mo_bagOf hm H hc I.uq id hx9 ep9 h5) (by decide) e0 rfl) (fun _ => ?_)
      rw [if_pos e0, hix]
theorem fa_idAt (hp : gPxs Γ) (G : gMO Γ de h m V F B) (hB9 : B ≤ 9000) (p : Int32) : fQ Γ M_X9_idAt [.ref m, .int p] h (rT (bI (nI 0 ≤ p ∧ p ≤ F 0 3 - nI 1)) (nI 1) (nI 1)) (.int (if rT (bI (nI 0 ≤ p ∧ p ≤ F 0 3 - nI 1)) (nI 1) (nI 1) = 0 then F 0 (62 + 7 * p.toNatClampNeg) else nI 0)) (nmOf xIO xIO xIO) := by
  obtain ⟨nx, o, svv, hl, tt, bu, sb, la, ta, ca, da, ba, pa, ep, fl, fq, ls, ps, hm, H, I, hB⟩ := G.rd
  have hc := I.hc
  have ht := I.ht
  have hw := I.lv (by omega)
  have hlen := H.2.2.1
  by_cases hx : nI 0 ≤ p ∧ p ≤ nI (rc (F 0)) - nI 1
  · obtain ⟨k, hk, rfl⟩ := in_rg (by omega) hx
    obtain ⟨a, hx9⟩ : ∃ z, ls[k]? = some z := ⟨_, List.getElem?_eq_getElem (by omega)⟩
    have e0 : rT (bI (nI 0 ≤ (nI k) ∧ (nI k) ≤ F 0 3 - nI 1)) (nI 1) (nI 1) = 0 := by rw [I.h3, bI_t hx]; exact rT_0
    refine fQ_x (fQ_pure (mo_idAt hm H hc hx9) (by decide) e0 rfl) (fun _ => ?_)
    rw [if_pos e0, nI_clamp (by omega)]
  · refine fQ_no (mo_idAt_no hp hm H hc hx) (by decide) (by decide) (by decide) ?_ nm_s rfl
    rw [I.h3, bI_f hx, rT_1]
    exact n1x
theorem fa_codesOf (hp : gPxs Γ) (G : gMO Γ de h m V F B) (hB9 : B ≤ 9000) (rt : Int32) : fQ Γ M_X9_codesOf [.ref m, .int rt] h (rT (bI (nI 0 ≤ rt ∧ rt ≤ nI 5)) (nI 1) (nI 1)) (.int (if rT (bI (nI 0 ≤ rt ∧ rt ≤ nI 5)) (nI 1) (nI 1) = 0 then rCs (F 0) rt (rtt (F 0)) (rtt (F 0)) else nI 0)) (nmOf xIO xIO xIO) := by
  obtain ⟨nx, o, svv, hl, tt, bu, sb, la, ta, ca, da, ba, pa, ep, fl, fq, ls, ps, hm, H, I, hB⟩ := G.rd
  have hc := I.hc
  have ht := I.ht
  have hw := I.lv (by omega)
  have hlen := H.2.2.1
  by_cases hy : nI 0 ≤ rt ∧ rt ≤ nI 5
  · have e0 : rT (bI (nI 0 ≤ rt ∧ rt ≤ nI 5)) (nI 1) (nI 1) = 0 := by rw [bI_t hy]; exact rT_0
    refine fQ_x (fQ_pure (mo_codesOf hm H ht I.pv hy) (by decide) e0 rfl) (fun _ => ?_)
    rw [if_pos e0]
  · refine fQ_no (mo_codesOf_no hp hm hy) (by decide) (by decide) (by decide) ?_ nm_s rfl
    rw [bI_f hy, rT_1]
    exact n1x
theorem fa_bagCount (hp : gPxs Γ) (G : gMO Γ de h m V F B) (hB9 : B ≤ 9000) (x : Int32) : fQ Γ M_X9_bagCount [.ref m, .int x] h (rT (bI (nI 0 ≤ x ∧ x ≤ nI 5)) (nI 1) (nI 1)) (.int (if (nI 0 ≤ x ∧ x ≤ nI 5) then F 0 (8 + 3 * rIx x + 2) else nI 0)) (nmOf xIO xIO xIO) := by
  obtain ⟨nx, o, svv, hl, tt, bu, sb, la, ta, ca, da, ba, pa, ep, fl, fq, ls, ps, hm, H, I, hB⟩ := G.rd
  have hc := I.hc
  have ht := I.ht
  have hw := I.lv (by omega)
  have hlen := H.2.2.1
  by_cases hy : nI 0 ≤ x ∧ x ≤ nI 5
  · have e0 : rT (bI (nI 0 ≤ x ∧ x ≤ nI 5)) (nI 1) (nI 1) = 0 := by rw [bI_t hy]; exact rT_0
    refine fQ_x (fQ_pure (mo_bagCount hm H hy) (by decide) e0 rfl) (fun _ => ?_)
    rfl
  · refine fQ_no (mo_bagCount_no hp hm hy) (by decide) (by decide) (by decide) ?_ nm_s rfl
    rw [bI_f hy, rT_1]
    exact n1x
theorem fa_routeWeight (hp : gPxs Γ) (G : gMO Γ de h m V F B) (hB9 : B ≤ 9000) (rt : Int32) : fQ Γ M_X9_routeWeight [.ref m, .int rt] h (rT (bI (nI 0 ≤ rt ∧ rt ≤ nI 5)) (nI 1) (nI 1)) (.int (if rT (bI (nI 0 ≤ rt ∧ rt ≤ nI 5)) (nI 1) (nI 1) = 0 then rWt (F 0) rt (-1) (rc (F 0)) else nI 0)) (nmOf xIO xIO xIO) := by
  obtain ⟨nx, o, svv, hl, tt, bu, sb, la, ta, ca, da, ba, pa, ep, fl, fq, ls, ps, hm, H, I, hB⟩ := G.rd
  have hc := I.hc
  have ht := I.ht
  have hw := I.lv (by omega)
  have hlen := H.2.2.1
  by_cases hy : nI 0 ≤ rt ∧ rt ≤ nI 5
  · have e0 : rT (bI (nI 0 ≤ rt ∧ rt ≤ nI 5)) (nI 1) (nI 1) = 0 := by rw [bI_t hy]; exact rT_0
    refine fQ_x (fQ_pure (mo_routeWeight hm H hc hy) (by decide) e0 rfl) (fun _ => ?_)
    rw [if_pos e0]
  · refine fQ_no (mo_routeWeight_no hp hm hy) (by decide) (by decide) (by decide) ?_ nm_s rfl
    rw [bI_f hy, rT_1]
    exact n1x
theorem fa_freeWeight (hp : gPxs Γ) (G : gMO Γ de h m V F B) (hB9 : B ≤ 9000) (rt : Int32) : fQ Γ M_X9_freeWeight [.ref m, .int rt] h (rT (bI (nI 0 ≤ rt ∧ rt ≤ nI 5)) (nI 1) (nI 1)) (.int (if rT (bI (nI 0 ≤ rt ∧ rt ≤ nI 5)) (nI 1) (nI 1) = 0 then nI 450 - rWt (F 0) rt (-1) (rc (F 0)) else nI 0)) (nmOf xIO xIO xIO) := by
  obtain ⟨nx, o, svv, hl, tt, bu, sb, la, ta, ca, da, ba, pa, ep, fl, fq, ls, ps, hm, H, I, hB⟩ := G.rd
  have hc := I.hc
  have ht := I.ht
  have hw := I.lv (by omega)
  have hlen := H.2.2.1
  by_cases hy : nI 0 ≤ rt ∧ rt ≤ nI 5
  · have e0 : rT (bI (nI 0 ≤ rt ∧ rt ≤ nI 5)) (nI 1) (nI 1) = 0 := by rw [bI_t hy]; exact rT_0
    refine fQ_x (fQ_pure (mo_freeWeight hm H hc hy) (by decide) e0 rfl) (fun _ => ?_)
    rw [if_pos e0]
  · refine fQ_no (mo_freeWeight_no hp hm hy) (by decide) (by decide) (by decide) ?_ nm_s rfl
    rw [bI_f hy, rT_1]
    exact n1x
theorem fa_cutoff (hp : gPxs Γ) (G : gMO Γ de h m V F B) (hB9 : B ≤ 9000) (x : Int32) : fQ Γ M_X9_cutoff [.ref m, .int x] h (rT (bI (nI 0 ≤ x ∧ x ≤ nI 5)) (nI 1) (nI 1)) (.int (if (nI 0 ≤ x ∧ x ≤ nI 5) then F 0 (8 + 3 * rIx x + 0) else nI 0)) (nmOf xIO xIO xIO) := by
  obtain ⟨nx, o, svv, hl, tt, bu, sb, la, ta, ca, da, ba, pa, ep, fl, fq, ls, ps, hm, H, I, hB⟩ := G.rd
  have hc := I.hc
  have ht := I.ht
  have hw := I.lv (by omega)
  have hlen := H.2.2.1
  by_cases hy : nI 0 ≤ x ∧ x ≤ nI 5
  · have e0 : rT (bI (nI 0 ≤ x ∧ x ≤ nI 5)) (nI 1) (nI 1) = 0 := by rw [bI_t hy]; exact rT_0
    obtain ⟨er, hr⟩ := r5_lt hy
    have hmo := mo_cutoff hm H hr
    rw [← er] at hmo
    refine fQ_x (fQ_pure (hmo) (by decide) e0 rfl) (fun _ => ?_)
    rw [if_pos hy]
    rfl
  · refine fQ_no (mo_cutoff_no hp hm hy) (by decide) (by decide) (by decide) ?_ nm_s rfl
    rw [bI_f hy, rT_1]
    exact n1x
theorem fa_departure (hp : gPxs Γ) (G : gMO Γ de h m V F B) (hB9 : B ≤ 9000) (x : Int32) : fQ Γ M_X9_departure [.ref m, .int x] h (rT (bI (nI 0 ≤ x ∧ x ≤ nI 5)) (nI 1) (nI 1)) (.int (if (nI 0 ≤ x ∧ x ≤ nI 5) then F 0 (8 + 3 * rIx x + 1) else nI 0)) (nmOf xIO xIO xIO) := by
  obtain ⟨nx, o, svv, hl, tt, bu, sb, la, ta, ca, da, ba, pa, ep, fl, fq, ls, ps, hm, H, I, hB⟩ := G.rd
  have hc := I.hc
  have ht := I.ht
  have hw := I.lv (by omega)
  have hlen := H.2.2.1
  by_cases hy : nI 0 ≤ x ∧ x ≤ nI 5
  · have e0 : rT (bI (nI 0 ≤ x ∧ x ≤ nI 5)) (nI 1) (nI 1) = 0 := by rw [bI_t hy]; exact rT_0
    obtain ⟨er, hr⟩ := r5_lt hy
    have hmo := mo_departure hm H hr
    rw [← er] at hmo
    refine fQ_x (fQ_pure (hmo) (by decide) e0 rfl) (fun _ => ?_)
    rw [if_pos hy]
  · refine fQ_no (mo_departure_no hp hm hy) (by decide) (by decide) (by decide) ?_ nm_s rfl
    rw [bI_f hy, rT_1]
    exact n1x
theorem gHu_eq {N : Nat → Int32} {c t nx r : Nat} (I : rIV N c t nx) (hr : r < 6) : gHu N r = rHt N (nI r) := by
  obtain ⟨hh, h1, h2⟩ := I.hh
  obtain ⟨a, b, g, h3, h4, h5, h6, h7, h8⟩ := I.rt r (by omega)
  unfold gHu rHt
  rw [rIx_nI (by omega), h2, h7]
  have key : ∀ hh, hh < 24 → ∀ b, b < 24 → (if 0 < nI b - nI hh then nI b - nI hh else nI b - nI hh + nI 24) = (nI b - nI hh + nI 23) - (nI b - nI hh + nI 23) / nI 24 * nI 24 + nI 1 := by decide +kernel
  exact key hh h1 b (by omega)
theorem fa_hoursToDeparture (hp : gPxs Γ) (G : gMO Γ de h m V F B) (hB9 : B ≤ 9000) (rt : Int32) : fQ Γ M_X9_hoursToDeparture [.ref m, .int rt] h (rT (bI (nI 0 ≤ rt ∧ rt ≤ nI 5)) (nI 1) (nI 1)) (.int (if rT (bI (nI 0 ≤ rt ∧ rt ≤ nI 5)) (nI 1) (nI 1) = 0 then rHt (F 0) rt else nI 0)) (nmOf xIO xIO xIO) := by
  obtain ⟨nx, o, svv, hl, tt, bu, sb, la, ta, ca, da, ba, pa, ep, fl, fq, ls, ps, hm, H, I, hB⟩ := G.rd
  have hc := I.hc
  have ht := I.ht
  have hw := I.lv (by omega)
  have hlen := H.2.2.1
  by_cases hy : nI 0 ≤ rt ∧ rt ≤ nI 5
  · have e0 : rT (bI (nI 0 ≤ rt ∧ rt ≤ nI 5)) (nI 1) (nI 1) = 0 := by rw [bI_t hy]; exact rT_0
    obtain ⟨er, hr⟩ := r5_lt hy
    have hmo := mo_hoursToDeparture hm H hr
    rw [gHu_eq I hr, ← er] at hmo
    refine fQ_x (fQ_pure (hmo) (by decide) e0 rfl) (fun _ => ?_)
    rw [if_pos e0]
  · refine fQ_no (mo_hoursToDeparture_no hp hm hy) (by decide) (by decide) (by decide) ?_ nm_s rfl
    rw [bI_f hy, rT_1]
    exact n1x
theorem gCb_at {N : Nat → Int32} (hO : rOK N) {y : Int32} (hy : nI 0 ≤ y ∧ y ≤ nI 5) : rOp N y ≤ 3 ∧ gCb N y = nI (rOp N y) ∧ N (8 + 3 * rIx y + 2) = nI (rOp N y) := by
  obtain ⟨h1, h2⟩ := hO.get y
  exact ⟨h1, by unfold gCb; rw [if_pos hy]; exact h2, h2⟩
theorem fa_routeWeightByBags (hp : gPxs Γ) (G : gMO Γ de h m V F B) (hB9 : B ≤ 9000) (rt : Int32) : fQ Γ M_X9_routeWeightByBags [.ref m, .int rt] h (rT (bI (nI 0 ≤ rt ∧ rt ≤ nI 5)) (nI 1) (nI 1)) (.int (if rT (bI (nI 0 ≤ rt ∧ rt ≤ nI 5)) (nI 1) (nI 1) = 0 then rWt (F 0) rt (-1) (rc (F 0)) else nI 0)) (nmOf xIO xIO xIO) := by
  obtain ⟨nx, o, svv, hl, tt, bu, sb, la, ta, ca, da, ba, pa, ep, fl, fq, ls, ps, hm, H, I, hB⟩ := G.rd
  have hc := I.hc
  have ht := I.ht
  have hw := I.lv (by omega)
  have hlen := H.2.2.1
  by_cases hy : nI 0 ≤ rt ∧ rt ≤ nI 5
  · have e0 : rT (bI (nI 0 ≤ rt ∧ rt ≤ nI 5)) (nI 1) (nI 1) = 0 := by rw [bI_t hy]; exact rT_0
    obtain ⟨b1, b2, b3⟩ := gCb_at I.OK hy
    refine fQ_x (fQ_pure (mo_routeWeightByBags hm H hc b1 hy b2) (by decide) e0 rfl) (fun _ => ?_)
    rw [if_pos e0]
    obtain ⟨er, hr⟩ := r5_lt hy
    have := (I.sound (by omega) (rIx rt) (by omega)).1
    rw [← er] at this
    rw [this]
  · refine fQ_no (mo_routeWeightByBags_no hp hm hy) (by decide) (by decide) (by decide) ?_ nm_s rfl
    rw [bI_f hy, rT_1]
    exact n1x
theorem fa_bagWeight (hp : gPxs Γ) (G : gMO Γ de h m V F B) (hB9 : B ≤ 9000) (rt : Int32) (bg : Int32) : fQ Γ M_X9_bagWeight [.ref m, .int rt, .int bg] h (tBg (F 0) rt bg) (.int (if tBg (F 0) rt bg = 0 then rWt (F 0) rt bg (rc (F 0)) else nI 0)) (nmOf xIO xNS xNS) := by
  obtain ⟨nx, o, svv, hl, tt, bu, sb, la, ta, ca, da, ba, pa, ep, fl, fq, ls, ps, hm, H, I, hB⟩ := G.rd
  have hc := I.hc
  have ht := I.ht
  have hw := I.lv (by omega)
  have hlen := H.2.2.1
  by_cases hy : nI 0 ≤ rt ∧ rt ≤ nI 5
  · obtain ⟨b1, b2, b3⟩ := gCb_at I.OK hy
    by_cases hx : nI 0 ≤ bg ∧ bg ≤ nI (rOp (F 0) rt) - nI 1
    · have e0 : tBg (F 0) rt bg = 0 := by unfold tBg; rw [bI_t hy, b3, bI_t hx]; exact rT_0
      obtain ⟨k, hk, rfl⟩ := in_rg (by omega) hx
      refine fQ_x (fQ_pure (mo_bagWeight hm H hc hy b2 b1 hk) (by decide) e0 rfl) (fun _ => ?_)
      rw [if_pos e0]
    · have et : tBg (F 0) rt bg = nI 2 := by unfold tBg; rw [bI_t hy, b3, bI_f hx]; exact rT_2
      exact fQ_no (mo_bagWeight_none hp hm H hy b2 b1 hx) (by decide) (by decide) (by decide) (by rw [et]; exact n2x) (nmB _ et) rfl
  · have et : tBg (F 0) rt bg = nI 1 := by unfold tBg; rw [bI_f hy]; exact rT_1
    exact fQ_no (mo_bagWeight_no hp hm hy bg) (by decide) (by decide) (by decide) (by rw [et]; exact n1x) (nmA _ et) rfl
theorem fa_lettersInBag (hp : gPxs Γ) (G : gMO Γ de h m V F B) (hB9 : B ≤ 9000) (rt : Int32) (bg : Int32) : fQ Γ M_X9_lettersInBag [.ref m, .int rt, .int bg] h (tBg (F 0) rt bg) (.int (if tBg (F 0) rt bg = 0 then rLn (F 0) rt bg (rc (F 0)) else nI 0)) (nmOf xIO xNS xNS) := by
  obtain ⟨nx, o, svv, hl, tt, bu, sb, la, ta, ca, da, ba, pa, ep, fl, fq, ls, ps, hm, H, I, hB⟩ := G.rd
  have hc := I.hc
  have ht := I.ht
  have hw := I.lv (by omega)
  have hlen := H.2.2.1
  by_cases hy : nI 0 ≤ rt ∧ rt ≤ nI 5
  · obtain ⟨b1, b2, b3⟩ := gCb_at I.OK hy
    by_cases hx : nI 0 ≤ bg ∧ bg ≤ nI (rOp (F 0) rt) - nI 1
    · have e0 : tBg (F 0) rt bg = 0 := by unfold tBg; rw [bI_t hy, b3, bI_t hx]; exact rT_0
      obtain ⟨k, hk, rfl⟩ := in_rg (by omega) hx
      refine fQ_x (fQ_pure (mo_lettersInBag hm H hc hy b2 b1 hk) (by decide) e0 rfl) (fun _ => ?_)
      rw [if_pos e0]
    · have et : tBg (F 0) rt bg = nI 2 := by unfold tBg; rw [bI_t hy, b3, bI_f hx]; exact rT_2
      exact fQ_no (mo_lettersInBag_none hp hm H hy b2 b1 hx) (by decide) (by decide) (by decide) (by rw [et]; exact n2x) (nmB _ et) rfl
  · have et : tBg (F 0) rt bg = nI 1 := by unfold tBg; rw [bI_f hy]; exact rT_1
    exact fQ_no (mo_lettersInBag_no hp hm hy bg) (by decide) (by decide) (by decide) (by rw [et]; exact n1x) (nmA _ et) rfl
theorem fa_hasPrefix (hp : gPxs Γ) (G : gMO Γ de h m V F B) (hB9 : B ≤ 9000) (dg : Int32) (ln : Int32) : fQ Γ M_X9_hasPrefix [.ref m, .int dg, .int ln] h (rT (bI (rPx dg ln = true)) (nI 1) (nI 1)) (.int (if rT (bI (rPx dg ln = true)) (nI 1) (nI 1) = 0 then bI (¬ rFind (F 0) dg ln (rtt (F 0)) = -1) else nI 0)) (nmOf xIA xIA xIA) := by
  obtain ⟨nx, o, svv, hl, tt, bu, sb, la, ta, ca, da, ba, pa, ep, fl, fq, ls, ps, hm, H, I, hB⟩ := G.rd
  have hc := I.hc
  have ht := I.ht
  have hw := I.lv (by omega)
  have hlen := H.2.2.1
  by_cases hx : rPx dg ln = true
  · have e0 : rT (bI (rPx dg ln = true)) (nI 1) (nI 1) = 0 := by rw [bI_t hx]; exact rT_0
    refine fQ_x (fQ_pure (mo_hasPrefix hm H ht I.pv I.up hx) (by decide) e0 rfl) (fun _ => ?_)
    rw [if_pos e0]
  · refine fQ_no (mo_hasPrefix_no hp hm hx) (by decide) (by decide) (by decide) ?_ nm_s rfl
    rw [bI_f hx, rT_1]
    exact n1x
theorem fa_matchLength (hp : gPxs Γ) (G : gMO Γ de h m V F B) (hB9 : B ≤ 9000) (code : Int32) : fQ Γ M_X9_matchLength [.ref m, .int code] h (rT (bI (nI 0 ≤ code ∧ code ≤ nI 9999)) (nI 1) (nI 1)) (.int (if rT (bI (nI 0 ≤ code ∧ code ≤ nI 9999)) (nI 1) (nI 1) = 0 then rML (F 0) code (rtt (F 0)) else nI 0)) (nmOf xIA xIA xIA) := by
  obtain ⟨nx, o, svv, hl, tt, bu, sb, la, ta, ca, da, ba, pa, ep, fl, fq, ls, ps, hm, H, I, hB⟩ := G.rd
  have hc := I.hc
  have ht := I.ht
  have hw := I.lv (by omega)
  have hlen := H.2.2.1
  by_cases hy : nI 0 ≤ code ∧ code ≤ nI 9999
  · obtain ⟨cd, rfl, -, hcd⟩ := i32_in (by decide) (by decide) hy
    have e0 : rT (bI (nI 0 ≤ (nI cd) ∧ (nI cd) ≤ nI 9999)) (nI 1) (nI 1) = 0 := by rw [bI_t hy]; exact rT_0
    refine fQ_x (fQ_pure (mo_matchLength hm H ht I.pv (cd := cd) (by omega)) (by decide) e0 rfl) (fun _ => ?_)
    rw [if_pos e0]
  · refine fQ_no (mo_matchLength_no hp hm hy) (by decide) (by decide) (by decide) ?_ nm_s rfl
    rw [bI_f hy, rT_1]
    exact n1x
theorem fa_routeFor (hp : gPxs Γ) (G : gMO Γ de h m V F B) (hB9 : B ≤ 9000) (code : Int32) : fQ Γ M_X9_routeFor [.ref m, .int code] h (rT (bI (nI 0 ≤ code ∧ code ≤ nI 9999)) (bI ((nI 0 ≤ code ∧ code ≤ nI 9999) ∧ ¬ rRoute (F 0) code (rtt (F 0)) = -1)) (nI 1)) (.int (if rT (bI (nI 0 ≤ code ∧ code ≤ nI 9999)) (bI ((nI 0 ≤ code ∧ code ≤ nI 9999) ∧ ¬ rRoute (F 0) code (rtt (F 0)) = -1)) (nI 1) = 0 then rRoute (F 0) code (rtt (F 0)) else nI 0)) (nmOf xIA xNS xNS) := by
  obtain ⟨nx, o, svv, hl, tt, bu, sb, la, ta, ca, da, ba, pa, ep, fl, fq, ls, ps, hm, H, I, hB⟩ := G.rd
  have hc := I.hc
  have ht := I.ht
  have hw := I.lv (by omega)
  have hlen := H.2.2.1
  by_cases hy : nI 0 ≤ code ∧ code ≤ nI 9999
  · obtain ⟨cd, rfl, -, hcd⟩ := i32_in (by decide) (by decide) hy
    by_cases hr : rRoute (F 0) (nI cd) (rtt (F 0)) = -1
    · have et : rT (bI (nI 0 ≤ (nI cd) ∧ (nI cd) ≤ nI 9999)) (bI ((nI 0 ≤ (nI cd) ∧ (nI cd) ≤ nI 9999) ∧ ¬ rRoute (F 0) (nI cd) (rtt (F 0)) = -1)) (nI 1) = nI 2 := by rw [bI_t hy, bI_f (fun z => z.2 hr)]; exact rT_2
      exact fQ_no (mo_routeFor_none hp hm H ht I.pv (by omega) hr) (by decide) (by decide) (by decide) (by rw [et]; exact n2x) (nmB _ et) rfl
    · have e0 : rT (bI (nI 0 ≤ (nI cd) ∧ (nI cd) ≤ nI 9999)) (bI ((nI 0 ≤ (nI cd) ∧ (nI cd) ≤ nI 9999) ∧ ¬ rRoute (F 0) (nI cd) (rtt (F 0)) = -1)) (nI 1) = 0 := by rw [bI_t hy, bI_t ⟨hy, hr⟩]; exact rT_0
      refine fQ_x (fQ_pure (mo_routeFor hm H ht I.pv (by omega) hr) (by decide) e0 rfl) (fun _ => ?_)
      rw [if_pos e0]
  · have et : rT (bI (nI 0 ≤ code ∧ code ≤ nI 9999)) (bI ((nI 0 ≤ code ∧ code ≤ nI 9999) ∧ ¬ rRoute (F 0) code (rtt (F 0)) = -1)) (nI 1) = nI 1 := by rw [bI_f hy]; exact rT_1
    exact fQ_no (mo_routeFor_no hp hm hy) (by decide) (by decide) (by decide) (by rw [et]; exact n1x) (nmA _ et) rfl
theorem fa_meanWeight (hp : gPxs Γ) (G : gMO Γ de h m V F B) (hB9 : B ≤ 9000) : fQ Γ M_X9_meanWeight [.ref m] h (if (rc (F 0)) = 0 then nI 1 else nI 0) (.double (if (rc (F 0)) = 0 then FP.dconst0 else rMw (F 0) (rc (F 0)))) (nmOf xAR xAR xAR) := by
  obtain ⟨nx, o, svv, hl, tt, bu, sb, la, ta, ca, da, ba, pa, ep, fl, fq, ls, ps, hm, H, I, hB⟩ := G.rd
  have hc := I.hc
  have ht := I.ht
  have hw := I.lv (by omega)
  have hlen := H.2.2.1
  by_cases h0 : rc (F 0) = 0
  · refine fQ_no (mo_meanWeight_no hp hm H h0) (by decide) (by decide) (by decide) ?_ nm_s rfl
    rw [if_pos h0]
    exact n1x
  · have e0 : (if (rc (F 0)) = 0 then nI 1 else nI 0) = 0 := by rw [if_neg h0]; exact z0
    refine fQ_x (fQ_pure (mo_meanWeight hm H hc h0 (rMw_n I (by omega) h0)) (by decide) e0 rfl) (fun _ => ?_)
    rw [if_neg h0]
theorem fa_deliveredShare (hp : gPxs Γ) (G : gMO Γ de h m V F B) (hB9 : B ≤ 9000) : fQ Γ M_X9_deliveredShare [.ref m] h (if (F 0 2).toNatClampNeg = 0 then nI 1 else nI 0) (.float (if (F 0 2).toNatClampNeg = 0 then FP.fconst0 else rSh2 (F 0))) (nmOf xAR xAR xAR) := by
  obtain ⟨nx, o, svv, hl, tt, bu, sb, la, ta, ca, da, ba, pa, ep, fl, fq, ls, ps, hm, H, I, hB⟩ := G.rd
  have hc := I.hc
  have ht := I.ht
  have hw := I.lv (by omega)
  have hlen := H.2.2.1
  have en : (F 0 2).toNatClampNeg = nx := by rw [I.n2, nI_clamp (by omega)]
  by_cases h0 : (F 0 2).toNatClampNeg = 0
  · refine fQ_no (mo_deliveredShare_no hp hm H (by rw [I.n2, ← en, h0]; exact z0)) (by decide) (by decide) (by decide) ?_ nm_s rfl
    rw [if_pos h0]
    exact n1x
  · have e0 : (if (F 0 2).toNatClampNeg = 0 then nI 1 else nI 0) = 0 := by rw [if_neg h0]; exact z0
    refine fQ_x (fQ_pure (mo_deliveredShare hm H (fun z => h0 (by rw [z]; rfl)) (rSh2_n I (by omega) (by omega))) (by decide) e0 rfl) (fun _ => ?_)
    rw [if_neg h0]
theorem tHf_1 {N : Nat → Int32} {id : Int32} {c t : Nat} (hn : rPlace N id c = -1) : tHf N id c t = nI 1 := by unfold tHf; rw [bI_f (fun z => z hn)]; exact rT_1
theorem tHf_2 {N : Nat → Int32} {id : Int32} {c t p : Nat} (hn : ¬ rPlace N id c = -1) (hix : rIdx N id c = p) (h : N (62 + 7 * p + 5) = -1 ∨ rWr N p t = true) : tHf N id c t = nI 2 := by
  unfold tHf
  rw [bI_t hn, hix, bI_f (fun z => by
    rcases h with y | y
    · exact z.2.1 y
    · rw [y] at z; exact absurd z.2.2 (by decide))]
  exact rT_2
theorem tHf_0 {N : Nat → Int32} {id : Int32} {c t p : Nat} (hn : ¬ rPlace N id c = -1) (hix : rIdx N id c = p) (h5 : ¬ N (62 + 7 * p + 5) = -1) (hr : rWr N p t = false) : tHf N id c t = 0 := by
  unfold tHf
  rw [bI_t hn, hix, bI_t ⟨hn, h5, hr⟩]
  exact rT_0
theorem fa_hoursToDelivery (hp : gPxs Γ) (G : gMO Γ de h m V F B) (hB9 : B ≤ 9000) (id : Int32) : fQ Γ M_X9_hoursToDelivery [.ref m, .int id] h (tHf (F 0) id (rc (F 0)) (rtt (F 0))) (.int (if tHf (F 0) id (rc (F 0)) (rtt (F 0)) = 0 then rHt (F 0) (F 0 (62 + 7 * rIdx (F 0) id (rc (F 0)) + 5)) else nI 0)) (nmOf xNS xIS xIS) := by
  obtain ⟨nx, o, svv, hl, tt, bu, sb, la, ta, ca, da, ba, pa, ep, fl, fq, ls, ps, hm, H, I, hB⟩ := G.rd
  have hc := I.hc
  have ht := I.ht
  have hw := I.lv (by omega)
  have hlen := H.2.2.1
  by_cases hn : rPlace (F 0) id (rc (F 0)) = -1
  · have et := tHf_1 (t := rtt (F 0)) hn
    exact fQ_no (mo_hoursToDelivery_no hp hm H hc I.uq id hn) (by decide) (by decide) (by decide) (by rw [et]; exact n1x) (nmA _ et) rfl
  · obtain ⟨p, hp9, ep9⟩ := rPlace_in.resolve_left hn
    have hix := rIdx_of (by omega) ep9
    obtain ⟨a, hx9⟩ : ∃ z, ls[p]? = some z := ⟨_, List.getElem?_eq_getElem (by omega)⟩
    by_cases h5 : F 0 (62 + 7 * p + 5) = -1
    · have et := tHf_2 (t := rtt (F 0)) hn hix (Or.inl h5)
      exact fQ_no (mo_hoursToDelivery_tray hp hm H hc I.uq id hx9 ep9 h5) (by decide) (by decide) (by decide) (by rw [et]; exact n2x) (nmB _ et) rfl
    · cases hr9 : rWr (F 0) p (rtt (F 0)) with
      | true =>
        have et := tHf_2 (t := rtt (F 0)) hn hix (Or.inr hr9)
        exact fQ_no (mo_hoursToDelivery_wrong hp hm H hc ht I.pv hw I.uq id hx9 ep9 h5 hr9) (by decide) (by decide) (by decide) (by rw [et]; exact n2x) (nmB _ et) rfl
      | false =>
        have e0 := tHf_0 hn hix h5 hr9
        obtain ⟨m9, cd, w, pr, q, em, hm9, ec, hcd, ew, hw1, hw2, ep8, hpr, eq, hq, eA⟩ := hw p hp9
        obtain ⟨a9, b9, ha9, hb9, ea9, eb9⟩ := eA.resolve_left h5
        refine fQ_x (fQ_pure (mo_hoursToDelivery hm H hc ht I.pv hw I.uq id hx9 ep9 h5 hr9 (r := a9) (by omega) ea9) (by decide) e0 rfl) (fun _ => ?_)
        rw [if_pos e0, hix, ea9, gHu_eq I (by omega)]
end GFs
