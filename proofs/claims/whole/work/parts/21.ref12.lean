section S21ref12leantxt
variable {Γ : gE} {o : Nat} {ad : Nat → Nat} {V : Nat → Int32} {F : Nat → Nat → Int32}
def cV (V : Nat → Int32) (τ : Int32) (r : Nat) : Nat → Int32 := if τ = 0 then vU (vU V 13 τ) 6 (nI (rMr r)) else vU V 13 τ
def cF (F : Nat → Nat → Int32) (τ : Int32) (N : Nat → Int32) (r : Nat) : Nat → Nat → Int32 := if τ = 0 then fR (fR (fR F 1 (F 0)) 0 N) 4 (rMem (F 4) (F 0) r) else fR F 1 (F 0)
theorem r_endc {τ x y : Int32} {N : Nat → Int32} {r : Nat} (hr : r ≤ 8) (h6 : V 6 = nI r) (hy : τ = 0 → y = x) : mC Γ o ad M_X10_ends [.int y] (vU V 13 τ) (fR (fR F 1 (F 0)) 0 (if τ = 0 then N else F 0)) 2 (some (.int (if τ = 0 then x else nI 0))) (cV V τ r) (cF F τ N r) := by
  have e9 := r_ends (Γ := Γ) (o := o) (ad := ad) (V := vU V 13 τ) (F := fR (fR F 1 (F 0)) 0 (if τ = 0 then N else F 0)) y hr h6
  rw [show vU V 13 τ 13 = τ from vU_s] at e9
  unfold cV cF
  by_cases h : τ = 0
  · rw [if_pos h, if_pos h, if_pos h] at e9
    rw [if_pos h, if_pos h, if_pos h, if_pos h]
    obtain rfl := hy h
    rw [if_pos h, show fR (fR F 1 (F 0)) 0 N 4 = F 4 from rfl, show fR (fR F 1 (F 0)) 0 N 1 = F 0 from rfl] at e9
    exact e9
  · rw [if_neg h, if_neg h, if_neg h] at e9
    rw [if_neg h, if_neg h, if_neg h, if_neg h]
    rw [if_neg h] at e9
    refine mC_to e9 rfl rfl (fun j q _ _ => ?_)
    rw [fR_fR]
    show fR (fR F 1 (F 0)) 0 (F 0) j q = _
    unfold fR
    by_cases z : j = 0
    · subst z; rfl
    · rw [if_neg z]
theorem rp_addPrefix {t : Nat} (ht : t ≤ 12) (h4 : F 0 4 = nI t) (dg ln rt : Int32) {r : Nat} (hr : r ≤ 8) (h6 : V 6 = nI r) : mC Γ o ad M_X10_addPrefix [.int dg, .int ln, .int rt] V F 4 (some (.int (if rT (bI (rPx dg ln = true)) (bI (nI 0 ≤ rt ∧ rt ≤ nI 5)) (bI (F 0 4 < nI 12 ∧ rFind (F 0) dg ln t = -1)) = 0 then F 0 4 + nI 1 else nI 0))) (cV V (rT (bI (rPx dg ln = true)) (bI (nI 0 ≤ rt ∧ rt ≤ nI 5)) (bI (F 0 4 < nI 12 ∧ rFind (F 0) dg ln t = -1))) r) (cF F (rT (bI (rPx dg ln = true)) (bI (nI 0 ≤ rt ∧ rt ≤ nI 5)) (bI (F 0 4 < nI 12 ∧ rFind (F 0) dg ln t = -1))) (rAddN (F 0) dg ln rt t) r) := by
  refine mC_of (by decide) rfl (Nat.le_of_ble_eq_true rfl) [some (.ref o), some (.int dg), some (.int ln), some (.int rt)] rfl ?_
  refine m_blk [(.aload_n 0, .null)] (Nat.le_of_ble_eq_true rfl) (by decide +kernel) ?_
  refine gx_aload_n_0 ((gx_nil ?_))
  refine m_call kX10_109 (r_begins) (by decide +kernel) rfl rfl (Nat.le_of_ble_eq_true rfl) (Nat.le_of_ble_eq_true rfl) (Nat.le_of_ble_eq_true rfl) rfl ?_
  refine m_blk [(.aload_n 0, .null), (.aload_n 0, .null), (.iload_n 1, .null), (.iload_n 2, .null), (.iload_n 3, .null)] (Nat.le_of_ble_eq_true rfl) (by decide +kernel) ?_
  refine gx_aload_n_0 (gx_aload_n_0 (gx_iload_n_1 (gx_iload_n_2 (gx_iload_n_3 ((gx_nil ?_))))))
  refine m_call kX10_125 ((r_adds (V := V) (F := fR F 1 (F 0)) ht h4 dg ln rt)) (by decide +kernel) rfl rfl (Nat.le_of_ble_eq_true rfl) (Nat.le_of_ble_eq_true rfl) (Nat.le_of_ble_eq_true rfl) rfl ?_
  refine m_call kX10_115 (r_endc (τ := rT (bI (rPx dg ln = true)) (bI (nI 0 ≤ rt ∧ rt ≤ nI 5)) (bI (F 0 4 < nI 12 ∧ rFind (F 0) dg ln t = -1))) (x := F 0 4 + nI 1) (N := rAddN (F 0) dg ln rt t) hr h6 (fun z => if_pos z)) (by decide +kernel) rfl rfl (Nat.le_of_ble_eq_true rfl) (Nat.le_of_ble_eq_true rfl) (Nat.le_of_ble_eq_true rfl) rfl ?_
  refine m_end (some (.int _)) rfl ⟨by decide +kernel, _, rfl, rfl⟩ ?_ ?_ ?_
  · rfl
  · rfl
  · rfl
theorem rp_removePrefix {t : Nat} (ht : t ≤ 12) (h4 : F 0 4 = nI t) (dg ln : Int32) {r : Nat} (hr : r ≤ 8) (h6 : V 6 = nI r) : mC Γ o ad M_X10_removePrefix [.int dg, .int ln] V F 4 (some (.int (if rT (bI (rPx dg ln = true)) (bI (¬ rFind (F 0) dg ln t = -1)) (nI 1) = 0 then F 0 (26 + 3 * (rFind (F 0) dg ln t).toNatClampNeg + 2) else nI 0))) (cV V (rT (bI (rPx dg ln = true)) (bI (¬ rFind (F 0) dg ln t = -1)) (nI 1)) r) (cF F (rT (bI (rPx dg ln = true)) (bI (¬ rFind (F 0) dg ln t = -1)) (nI 1)) (rRm (F 0) (rFind (F 0) dg ln t).toNatClampNeg) r) := by
  refine mC_of (by decide) rfl (Nat.le_of_ble_eq_true rfl) [some (.ref o), some (.int dg), some (.int ln)] rfl ?_
  refine m_blk [(.aload_n 0, .null)] (Nat.le_of_ble_eq_true rfl) (by decide +kernel) ?_
  refine gx_aload_n_0 ((gx_nil ?_))
  refine m_call kX10_109 (r_begins) (by decide +kernel) rfl rfl (Nat.le_of_ble_eq_true rfl) (Nat.le_of_ble_eq_true rfl) (Nat.le_of_ble_eq_true rfl) rfl ?_
  refine m_blk [(.aload_n 0, .null), (.aload_n 0, .null), (.iload_n 1, .null), (.iload_n 2, .null)] (Nat.le_of_ble_eq_true rfl) (by decide +kernel) ?_
  refine gx_aload_n_0 (gx_aload_n_0 (gx_iload_n_1 (gx_iload_n_2 ((gx_nil ?_)))))
  refine m_call kX10_128 ((r_removes (V := V) (F := fR F 1 (F 0)) ht h4 dg ln)) (by decide +kernel) rfl rfl (Nat.le_of_ble_eq_true rfl) (Nat.le_of_ble_eq_true rfl) (Nat.le_of_ble_eq_true rfl) rfl ?_
  refine m_call kX10_115 (r_endc (τ := rT (bI (rPx dg ln = true)) (bI (¬ rFind (F 0) dg ln t = -1)) (nI 1)) (x := F 0 (26 + 3 * (rFind (F 0) dg ln t).toNatClampNeg + 2)) (N := rRm (F 0) (rFind (F 0) dg ln t).toNatClampNeg) hr h6 (fun z => if_pos z)) (by decide +kernel) rfl rfl (Nat.le_of_ble_eq_true rfl) (Nat.le_of_ble_eq_true rfl) (Nat.le_of_ble_eq_true rfl) rfl ?_
  refine m_end (some (.int _)) rfl ⟨by decide +kernel, _, rfl, rfl⟩ ?_ ?_ ?_
  · rfl
  · rfl
  · rfl
theorem rp_sort {c : Nat} (hc : c ≤ 20) (h3 : F 0 3 = nI c) {t : Nat} (ht : t ≤ 12) (h4 : F 0 4 = nI t) (hOK : rOK (F 0)) (id : Int32) {r : Nat} (hr : r ≤ 8) (h6 : V 6 = nI r) : mC Γ o ad M_X10_sort [.int id] V F 7 (some (.int (if rT (bI (¬ rPlace (F 0) id c = -1)) (bI (¬ rPlace (F 0) id c = -1 ∧ rGo (F 0) (rIdx (F 0) id c) (rSrt (F 0) id c t) c (rOp (F 0) (rSrt (F 0) id c t)) = true)) (nI 1) = 0 then rBag (F 0) (rSrt (F 0) id c t) (F 0 (62 + 7 * rIdx (F 0) id c + 2)) c (rOp (F 0) (rSrt (F 0) id c t)) else nI 0))) (cV V (rT (bI (¬ rPlace (F 0) id c = -1)) (bI (¬ rPlace (F 0) id c = -1 ∧ rGo (F 0) (rIdx (F 0) id c) (rSrt (F 0) id c t) c (rOp (F 0) (rSrt (F 0) id c t)) = true)) (nI 1)) r) (cF F (rT (bI (¬ rPlace (F 0) id c = -1)) (bI (¬ rPlace (F 0) id c = -1 ∧ rGo (F 0) (rIdx (F 0) id c) (rSrt (F 0) id c t) c (rOp (F 0) (rSrt (F 0) id c t)) = true)) (nI 1)) (rInto (F 0) (rIdx (F 0) id c) (rSrt (F 0) id c t) c (rOp (F 0) (rSrt (F 0) id c t))) r) := by
  refine mC_of (by decide) rfl (Nat.le_of_ble_eq_true rfl) [some (.ref o), some (.int id)] rfl ?_
  refine m_blk [(.aload_n 0, .null)] (Nat.le_of_ble_eq_true rfl) (by decide +kernel) ?_
  refine gx_aload_n_0 ((gx_nil ?_))
  refine m_call kX10_109 (r_begins) (by decide +kernel) rfl rfl (Nat.le_of_ble_eq_true rfl) (Nat.le_of_ble_eq_true rfl) (Nat.le_of_ble_eq_true rfl) rfl ?_
  refine m_blk [(.aload_n 0, .null), (.aload_n 0, .null), (.iload_n 1, .null)] (Nat.le_of_ble_eq_true rfl) (by decide +kernel) ?_
  refine gx_aload_n_0 (gx_aload_n_0 (gx_iload_n_1 ((gx_nil ?_))))
  refine m_call kX10_140 ((r_sorts (V := V) (F := fR F 1 (F 0)) hc h3 ht h4 hOK id)) (by decide +kernel) rfl rfl (Nat.le_of_ble_eq_true rfl) (Nat.le_of_ble_eq_true rfl) (Nat.le_of_ble_eq_true rfl) rfl ?_
  refine m_call kX10_115 (r_endc (τ := rT (bI (¬ rPlace (F 0) id c = -1)) (bI (¬ rPlace (F 0) id c = -1 ∧ rGo (F 0) (rIdx (F 0) id c) (rSrt (F 0) id c t) c (rOp (F 0) (rSrt (F 0) id c t)) = true)) (nI 1)) (x := rBag (F 0) (rSrt (F 0) id c t) (F 0 (62 + 7 * rIdx (F 0) id c + 2)) c (rOp (F 0) (rSrt (F 0) id c t))) (N := rInto (F 0) (rIdx (F 0) id c) (rSrt (F 0) id c t) c (rOp (F 0) (rSrt (F 0) id c t))) hr h6 (fun z => if_pos z)) (by decide +kernel) rfl rfl (Nat.le_of_ble_eq_true rfl) (Nat.le_of_ble_eq_true rfl) (Nat.le_of_ble_eq_true rfl) rfl ?_
  refine m_end (some (.int _)) rfl ⟨by decide +kernel, _, rfl, rfl⟩ ?_ ?_ ?_
  · rfl
  · rfl
  · rfl
theorem rp_place {c : Nat} (hc : c ≤ 20) (h3 : F 0 3 = nI c) (hOK : rOK (F 0)) (id rt : Int32) {r : Nat} (hr : r ≤ 8) (h6 : V 6 = nI r) : mC Γ o ad M_X10_place [.int id, .int rt] V F 7 (some (.int (if rT (bI (¬ rPlace (F 0) id c = -1)) (bI (nI 0 ≤ rt ∧ rt ≤ nI 5)) (bI (¬ rPlace (F 0) id c = -1 ∧ rGo (F 0) (rIdx (F 0) id c) rt c (rOp (F 0) rt) = true)) = 0 then rBag (F 0) rt (F 0 (62 + 7 * rIdx (F 0) id c + 2)) c (rOp (F 0) rt) else nI 0))) (cV V (rT (bI (¬ rPlace (F 0) id c = -1)) (bI (nI 0 ≤ rt ∧ rt ≤ nI 5)) (bI (¬ rPlace (F 0) id c = -1 ∧ rGo (F 0) (rIdx (F 0) id c) rt c (rOp (F 0) rt) = true))) r) (cF F (rT (bI (¬ rPlace (F 0) id c = -1)) (bI (nI 0 ≤ rt ∧ rt ≤ nI 5)) (bI (¬ rPlace (F 0) id c = -1 ∧ rGo (F 0) (rIdx (F 0) id c) rt c (rOp (F 0) rt) = true))) (rInto (F 0) (rIdx (F 0) id c) rt c (rOp (F 0) rt)) r) := by
  refine mC_of (by decide) rfl (Nat.le_of_ble_eq_true rfl) [some (.ref o), some (.int id), some (.int rt)] rfl ?_
  refine m_blk [(.aload_n 0, .null)] (Nat.le_of_ble_eq_true rfl) (by decide +kernel) ?_
  refine gx_aload_n_0 ((gx_nil ?_))
  refine m_call kX10_109 (r_begins) (by decide +kernel) rfl rfl (Nat.le_of_ble_eq_true rfl) (Nat.le_of_ble_eq_true rfl) (Nat.le_of_ble_eq_true rfl) rfl ?_
  refine m_blk [(.aload_n 0, .null), (.aload_n 0, .null), (.iload_n 1, .null), (.iload_n 2, .null)] (Nat.le_of_ble_eq_true rfl) (by decide +kernel) ?_
  refine gx_aload_n_0 (gx_aload_n_0 (gx_iload_n_1 (gx_iload_n_2 ((gx_nil ?_)))))
  refine m_call kX10_150 ((r_places (V := V) (F := fR F 1 (F 0)) hc h3 hOK id rt)) (by decide +kernel) rfl rfl (Nat.le_of_ble_eq_true rfl) (Nat.le_of_ble_eq_true rfl) (Nat.le_of_ble_eq_true rfl) rfl ?_
  refine m_call kX10_115 (r_endc (τ := rT (bI (¬ rPlace (F 0) id c = -1)) (bI (nI 0 ≤ rt ∧ rt ≤ nI 5)) (bI (¬ rPlace (F 0) id c = -1 ∧ rGo (F 0) (rIdx (F 0) id c) rt c (rOp (F 0) rt) = true))) (x := rBag (F 0) rt (F 0 (62 + 7 * rIdx (F 0) id c + 2)) c (rOp (F 0) rt)) (N := rInto (F 0) (rIdx (F 0) id c) rt c (rOp (F 0) rt)) hr h6 (fun z => if_pos z)) (by decide +kernel) rfl rfl (Nat.le_of_ble_eq_true rfl) (Nat.le_of_ble_eq_true rfl) (Nat.le_of_ble_eq_true rfl) rfl ?_
  refine m_end (some (.int _)) rfl ⟨by decide +kernel, _, rfl, rfl⟩ ?_ ?_ ?_
  · rfl
  · rfl
  · rfl
theorem rp_pull {c : Nat} (hc : c ≤ 20) (h3 : F 0 3 = nI c) (id : Int32) {r : Nat} (hr : r ≤ 8) (h6 : V 6 = nI r) : mC Γ o ad M_X10_pull [.int id] V F 5 (some (.int (if rT (bI (¬ rPlace (F 0) id c = -1)) (bI (¬ F 0 (62 + 7 * rIdx (F 0) id c + 5) = -1)) (nI 1) = 0 then F 0 (62 + 7 * rIdx (F 0) id c + 5) else nI 0))) (cV V (rT (bI (¬ rPlace (F 0) id c = -1)) (bI (¬ F 0 (62 + 7 * rIdx (F 0) id c + 5) = -1)) (nI 1)) r) (cF F (rT (bI (¬ rPlace (F 0) id c = -1)) (bI (¬ F 0 (62 + 7 * rIdx (F 0) id c + 5) = -1)) (nI 1)) (upd (F 0) (62 + 7 * rIdx (F 0) id c + 5) (-1)) r) := by
  refine mC_of (by decide) rfl (Nat.le_of_ble_eq_true rfl) [some (.ref o), some (.int id)] rfl ?_
  refine m_blk [(.aload_n 0, .null)] (Nat.le_of_ble_eq_true rfl) (by decide +kernel) ?_
  refine gx_aload_n_0 ((gx_nil ?_))
  refine m_call kX10_109 (r_begins) (by decide +kernel) rfl rfl (Nat.le_of_ble_eq_true rfl) (Nat.le_of_ble_eq_true rfl) (Nat.le_of_ble_eq_true rfl) rfl ?_
  refine m_blk [(.aload_n 0, .null), (.aload_n 0, .null), (.iload_n 1, .null)] (Nat.le_of_ble_eq_true rfl) (by decide +kernel) ?_
  refine gx_aload_n_0 (gx_aload_n_0 (gx_iload_n_1 ((gx_nil ?_))))
  refine m_call kX10_159 ((r_pulls (V := V) (F := fR F 1 (F 0)) hc h3 id)) (by decide +kernel) rfl rfl (Nat.le_of_ble_eq_true rfl) (Nat.le_of_ble_eq_true rfl) (Nat.le_of_ble_eq_true rfl) rfl ?_
  refine m_call kX10_115 (r_endc (τ := rT (bI (¬ rPlace (F 0) id c = -1)) (bI (¬ F 0 (62 + 7 * rIdx (F 0) id c + 5) = -1)) (nI 1)) (x := F 0 (62 + 7 * rIdx (F 0) id c + 5)) (N := upd (F 0) (62 + 7 * rIdx (F 0) id c + 5) (-1)) hr h6 (fun z => if_pos z)) (by decide +kernel) rfl rfl (Nat.le_of_ble_eq_true rfl) (Nat.le_of_ble_eq_true rfl) (Nat.le_of_ble_eq_true rfl) rfl ?_
  refine m_end (some (.int _)) rfl ⟨by decide +kernel, _, rfl, rfl⟩ ?_ ?_ ?_
  · rfl
  · rfl
  · rfl
theorem rp_pass (hg : rGd (F 0)) (hrs : Int32) {r : Nat} (hr : r ≤ 8) (h6 : V 6 = nI r) : mC Γ o ad M_X10_pass [.int hrs] V F 6 (some (.int (if rT (bI (nI 1 ≤ hrs ∧ hrs ≤ nI 48)) (nI 1) (nI 1) = 0 then (rHF hrs.toNatClampNeg (F 0, nI 0)).2 else nI 0))) (cV V (rT (bI (nI 1 ≤ hrs ∧ hrs ≤ nI 48)) (nI 1) (nI 1)) r) (cF F (rT (bI (nI 1 ≤ hrs ∧ hrs ≤ nI 48)) (nI 1) (nI 1)) ((rHF hrs.toNatClampNeg (F 0, nI 0)).1) r) := by
  refine mC_of (by decide) rfl (Nat.le_of_ble_eq_true rfl) [some (.ref o), some (.int hrs)] rfl ?_
  refine m_blk [(.aload_n 0, .null)] (Nat.le_of_ble_eq_true rfl) (by decide +kernel) ?_
  refine gx_aload_n_0 ((gx_nil ?_))
  refine m_call kX10_109 (r_begins) (by decide +kernel) rfl rfl (Nat.le_of_ble_eq_true rfl) (Nat.le_of_ble_eq_true rfl) (Nat.le_of_ble_eq_true rfl) rfl ?_
  refine m_blk [(.aload_n 0, .null), (.aload_n 0, .null), (.iload_n 1, .null)] (Nat.le_of_ble_eq_true rfl) (by decide +kernel) ?_
  refine gx_aload_n_0 (gx_aload_n_0 (gx_iload_n_1 ((gx_nil ?_))))
  refine m_call kX10_176 ((r_waits (V := V) (F := fR F 1 (F 0)) hg hrs)) (by decide +kernel) rfl rfl (Nat.le_of_ble_eq_true rfl) (Nat.le_of_ble_eq_true rfl) (Nat.le_of_ble_eq_true rfl) rfl ?_
  refine m_call kX10_115 (r_endc (τ := rT (bI (nI 1 ≤ hrs ∧ hrs ≤ nI 48)) (nI 1) (nI 1)) (x := (rHF hrs.toNatClampNeg (F 0, nI 0)).2) (N := (rHF hrs.toNatClampNeg (F 0, nI 0)).1) hr h6 (fun z => if_pos z)) (by decide +kernel) rfl rfl (Nat.le_of_ble_eq_true rfl) (Nat.le_of_ble_eq_true rfl) (Nat.le_of_ble_eq_true rfl) rfl ?_
  refine m_end (some (.int _)) rfl ⟨by decide +kernel, _, rfl, rfl⟩ ?_ ?_ ?_
  · rfl
  · rfl
  · rfl
theorem rp_setCutoff (rt ho : Int32) {r : Nat} (hr : r ≤ 8) (h6 : V 6 = nI r) : mC Γ o ad M_X10_setCutoff [.int rt, .int ho] V F 5 (some (.int (if rT (bI (nI 0 ≤ rt ∧ rt ≤ nI 5)) (bI (nI 0 ≤ ho ∧ ho ≤ nI 24)) (nI 1) = 0 then F 0 (8 + 3 * rIx rt + 0) else nI 0))) (cV V (rT (bI (nI 0 ≤ rt ∧ rt ≤ nI 5)) (bI (nI 0 ≤ ho ∧ ho ≤ nI 24)) (nI 1)) r) (cF F (rT (bI (nI 0 ≤ rt ∧ rt ≤ nI 5)) (bI (nI 0 ≤ ho ∧ ho ≤ nI 24)) (nI 1)) (upd (F 0) (8 + 3 * rIx rt + 0) ho) r) := by
  refine mC_of (by decide) rfl (Nat.le_of_ble_eq_true rfl) [some (.ref o), some (.int rt), some (.int ho)] rfl ?_
  refine m_blk [(.aload_n 0, .null)] (Nat.le_of_ble_eq_true rfl) (by decide +kernel) ?_
  refine gx_aload_n_0 ((gx_nil ?_))
  refine m_call kX10_109 (r_begins) (by decide +kernel) rfl rfl (Nat.le_of_ble_eq_true rfl) (Nat.le_of_ble_eq_true rfl) (Nat.le_of_ble_eq_true rfl) rfl ?_
  refine m_blk [(.aload_n 0, .null), (.aload_n 0, .null), (.iload_n 1, .null), (.iconst 0, .int (nI 0)), (.iload_n 2, .null), (.bipush 24, .int (nI 24))] (Nat.le_of_ble_eq_true rfl) (by decide +kernel) ?_
  refine gx_aload_n_0 (gx_aload_n_0 (gx_iload_n_1 (gx_iconst (gx_iload_n_2 (gx_bipush ((gx_nil ?_)))))))
  refine m_call kX10_162 ((r_sets (V := V) (F := fR F 1 (F 0)) rt 0 (by decide) ho (nI 24))) (by decide +kernel) rfl rfl (Nat.le_of_ble_eq_true rfl) (Nat.le_of_ble_eq_true rfl) (Nat.le_of_ble_eq_true rfl) rfl ?_
  refine m_call kX10_115 (r_endc (τ := rT (bI (nI 0 ≤ rt ∧ rt ≤ nI 5)) (bI (nI 0 ≤ ho ∧ ho ≤ nI 24)) (nI 1)) (x := F 0 (8 + 3 * rIx rt + 0)) (N := upd (F 0) (8 + 3 * rIx rt + 0) ho) hr h6 (fun _ => rfl)) (by decide +kernel) rfl rfl (Nat.le_of_ble_eq_true rfl) (Nat.le_of_ble_eq_true rfl) (Nat.le_of_ble_eq_true rfl) rfl ?_
  refine m_end (some (.int _)) rfl ⟨by decide +kernel, _, rfl, rfl⟩ ?_ ?_ ?_
  · rfl
  · rfl
  · rfl
theorem rp_setDeparture (rt ho : Int32) {r : Nat} (hr : r ≤ 8) (h6 : V 6 = nI r) : mC Γ o ad M_X10_setDeparture [.int rt, .int ho] V F 5 (some (.int (if rT (bI (nI 0 ≤ rt ∧ rt ≤ nI 5)) (bI (nI 0 ≤ ho ∧ ho ≤ nI 23)) (nI 1) = 0 then F 0 (8 + 3 * rIx rt + 1) else nI 0))) (cV V (rT (bI (nI 0 ≤ rt ∧ rt ≤ nI 5)) (bI (nI 0 ≤ ho ∧ ho ≤ nI 23)) (nI 1)) r) (cF F (rT (bI (nI 0 ≤ rt ∧ rt ≤ nI 5)) (bI (nI 0 ≤ ho ∧ ho ≤ nI 23)) (nI 1)) (upd (F 0) (8 + 3 * rIx rt + 1) ho) r) := by
  refine mC_of (by decide) rfl (Nat.le_of_ble_eq_true rfl) [some (.ref o), some (.int rt), some (.int ho)] rfl ?_
  refine m_blk [(.aload_n 0, .null)] (Nat.le_of_ble_eq_true rfl) (by decide +kernel) ?_
  refine gx_aload_n_0 ((gx_nil ?_))
  refine m_call kX10_109 (r_begins) (by decide +kernel) rfl rfl (Nat.le_of_ble_eq_true rfl) (Nat.le_of_ble_eq_true rfl) (Nat.le_of_ble_eq_true rfl) rfl ?_
  refine m_blk [(.aload_n 0, .null), (.aload_n 0, .null), (.iload_n 1, .null), (.iconst 1, .int (nI 1)), (.iload_n 2, .null), (.bipush 23, .int (nI 23))] (Nat.le_of_ble_eq_true rfl) (by decide +kernel) ?_
  refine gx_aload_n_0 (gx_aload_n_0 (gx_iload_n_1 (gx_iconst (gx_iload_n_2 (gx_bipush ((gx_nil ?_)))))))
  refine m_call kX10_162 ((r_sets (V := V) (F := fR F 1 (F 0)) rt 1 (by decide) ho (nI 23))) (by decide +kernel) rfl rfl (Nat.le_of_ble_eq_true rfl) (Nat.le_of_ble_eq_true rfl) (Nat.le_of_ble_eq_true rfl) rfl ?_
  refine m_call kX10_115 (r_endc (τ := rT (bI (nI 0 ≤ rt ∧ rt ≤ nI 5)) (bI (nI 0 ≤ ho ∧ ho ≤ nI 23)) (nI 1)) (x := F 0 (8 + 3 * rIx rt + 1)) (N := upd (F 0) (8 + 3 * rIx rt + 1) ho) hr h6 (fun _ => rfl)) (by decide +kernel) rfl rfl (Nat.le_of_ble_eq_true rfl) (Nat.le_of_ble_eq_true rfl) (Nat.le_of_ble_eq_true rfl) rfl ?_
  refine m_end (some (.int _)) rfl ⟨by decide +kernel, _, rfl, rfl⟩ ?_ ?_ ?_
  · rfl
  · rfl
  · rfl
theorem rp_sortAll {c : Nat} (hc : c ≤ 20) (h3 : F 0 3 = nI c) {t : Nat} (ht : t ≤ 12) (h4 : F 0 4 = nI t) (hOK : rOK (F 0)) {r : Nat} (hr : r ≤ 8) (h6 : V 6 = nI r) : mC Γ o ad M_X10_sortAll [] V F 8 (some (.int (if nI 0 = 0 then (rSA (F 0) c t).2 else nI 0))) (cV V (nI 0) r) (cF F (nI 0) ((rSA (F 0) c t).1) r) := by
  refine mC_of (by decide) rfl (Nat.le_of_ble_eq_true rfl) [some (.ref o)] rfl ?_
  refine m_blk [(.aload_n 0, .null)] (Nat.le_of_ble_eq_true rfl) (by decide +kernel) ?_
  refine gx_aload_n_0 ((gx_nil ?_))
  refine m_call kX10_109 (r_begins) (by decide +kernel) rfl rfl (Nat.le_of_ble_eq_true rfl) (Nat.le_of_ble_eq_true rfl) (Nat.le_of_ble_eq_true rfl) rfl ?_
  refine m_blk [(.aload_n 0, .null), (.aload_n 0, .null)] (Nat.le_of_ble_eq_true rfl) (by decide +kernel) ?_
  refine gx_aload_n_0 (gx_aload_n_0 ((gx_nil ?_)))
  refine m_call kX10_146 ((r_sortsAll (V := V) (F := fR F 1 (F 0)) hc h3 ht h4 hOK)) (by decide +kernel) rfl rfl (Nat.le_of_ble_eq_true rfl) (Nat.le_of_ble_eq_true rfl) (Nat.le_of_ble_eq_true rfl) rfl ?_
  refine m_call kX10_115 (r_endc (τ := nI 0) (x := (rSA (F 0) c t).2) (N := (rSA (F 0) c t).1) hr h6 (fun _ => rfl)) (by decide +kernel) rfl rfl (Nat.le_of_ble_eq_true rfl) (Nat.le_of_ble_eq_true rfl) (Nat.le_of_ble_eq_true rfl) rfl ?_
  refine m_end (some (.int _)) rfl ⟨by decide +kernel, _, rfl, rfl⟩ ?_ ?_ ?_
  · rfl
  · rfl
  · rfl
theorem rp_accept {c : Nat} (hc : c ≤ 20) (h3 : F 0 3 = nI c) (code wt bl : Int32) {r : Nat} (hr : r ≤ 8) (h6 : V 6 = nI r) : mC Γ o ad M_X10_accept [.int code, .int wt, .int bl] V F 4 (some (.int (if rT (bI ((nI 0 ≤ code ∧ code ≤ nI 9999) ∧ (nI 1 ≤ wt ∧ wt ≤ nI 50))) (bI (F 0 3 < nI 20)) (nI 1) = 0 then F 0 2 else nI 0))) (cV V (rT (bI ((nI 0 ≤ code ∧ code ≤ nI 9999) ∧ (nI 1 ≤ wt ∧ wt ≤ nI 50))) (bI (F 0 3 < nI 20)) (nI 1)) r) (cF F (rT (bI ((nI 0 ≤ code ∧ code ≤ nI 9999) ∧ (nI 1 ≤ wt ∧ wt ≤ nI 50))) (bI (F 0 3 < nI 20)) (nI 1)) (rAcc (F 0) code wt (if bl = 0 then nI 0 else nI 1) c) r) := by
  refine mC_of (by decide) rfl (Nat.le_of_ble_eq_true rfl) [some (.ref o), some (.int code), some (.int wt), some (.int bl)] rfl ?_
  refine m_blk [(.aload_n 0, .null)] (Nat.le_of_ble_eq_true rfl) (by decide +kernel) ?_
  refine gx_aload_n_0 ((gx_nil ?_))
  refine m_call kX10_109 (r_begins) (by decide +kernel) rfl rfl (Nat.le_of_ble_eq_true rfl) (Nat.le_of_ble_eq_true rfl) (Nat.le_of_ble_eq_true rfl) rfl ?_
  refine m_blk [(.aload_n 0, .null), (.aload_n 0, .null), (.iload_n 1, .null), (.iload_n 2, .null), (.iload_n 3, .null)] (Nat.le_of_ble_eq_true rfl) (by decide +kernel) ?_
  refine gx_aload_n_0 (gx_aload_n_0 (gx_iload_n_1 (gx_iload_n_2 (gx_iload_n_3 ((gx_nil ?_))))))
  refine m_if_eq (off := 7) (tgt := 16) (by decide +kernel) (by decide) (fun c9 => ?_) (fun c9 => ?_)
  · try simp only [bI_0, Decidable.not_not] at c9
    rw [show (if bl = 0 then nI 0 else nI 1) = nI 0 from if_pos c9]
    refine m_blk [(.iconst 0, .int (nI 0))] (Nat.le_of_ble_eq_true rfl) (by decide +kernel) ?_
    refine gx_iconst ((gx_nil ?_))
    refine m_call kX10_112 ((r_accepts (V := V) (F := fR F 1 (F 0)) hc h3 code wt (nI 0))) (by decide +kernel) rfl rfl (Nat.le_of_ble_eq_true rfl) (Nat.le_of_ble_eq_true rfl) (Nat.le_of_ble_eq_true rfl) rfl ?_
    refine m_call kX10_115 (r_endc (τ := rT (bI ((nI 0 ≤ code ∧ code ≤ nI 9999) ∧ (nI 1 ≤ wt ∧ wt ≤ nI 50))) (bI (F 0 3 < nI 20)) (nI 1)) (x := F 0 2) (N := rAcc (F 0) code wt (nI 0) c) hr h6 (fun z => if_pos z)) (by decide +kernel) rfl rfl (Nat.le_of_ble_eq_true rfl) (Nat.le_of_ble_eq_true rfl) (Nat.le_of_ble_eq_true rfl) rfl ?_
    refine m_end (some (.int _)) rfl ⟨by decide +kernel, _, rfl, rfl⟩ ?_ ?_ ?_
    · rfl
    · rfl
    · rfl
  · try simp only [bI_0, Decidable.not_not] at c9
    rw [show (if bl = 0 then nI 0 else nI 1) = nI 1 from if_neg c9]
    refine m_blk [(.iconst 1, .int (nI 1)), (.goto 4, .retAddr 17)] (Nat.le_of_ble_eq_true rfl) (by decide +kernel) ?_
    refine gx_iconst (gx_goto ((gx_nil ?_)))
    refine m_call kX10_112 ((r_accepts (V := V) (F := fR F 1 (F 0)) hc h3 code wt (nI 1))) (by decide +kernel) rfl rfl (Nat.le_of_ble_eq_true rfl) (Nat.le_of_ble_eq_true rfl) (Nat.le_of_ble_eq_true rfl) rfl ?_
    refine m_call kX10_115 (r_endc (τ := rT (bI ((nI 0 ≤ code ∧ code ≤ nI 9999) ∧ (nI 1 ≤ wt ∧ wt ≤ nI 50))) (bI (F 0 3 < nI 20)) (nI 1)) (x := F 0 2) (N := rAcc (F 0) code wt (nI 1) c) hr h6 (fun z => if_pos z)) (by decide +kernel) rfl rfl (Nat.le_of_ble_eq_true rfl) (Nat.le_of_ble_eq_true rfl) (Nat.le_of_ble_eq_true rfl) rfl ?_
    refine m_end (some (.int _)) rfl ⟨by decide +kernel, _, rfl, rfl⟩ ?_ ?_ ?_
    · rfl
    · rfl
    · rfl
end S21ref12leantxt
