/-! THE LAW: what the class answers, letter by letter and route by route -/
section GLc
variable {Γ : gE} {bm de mi : Nat} {h : gHp} {m : Nat} {N : Nat → Int32} {c t nx : Nat}
/-- the class's object, by the office's row -/
def lP (bm : Nat) (Γ : gE) (de : Nat) (h : gHp) (m : Nat) (N : Nat → Int32) (c t nx : Nat) : Prop := ∃ V F B, gMO Γ de h m V F B ∧ B ≤ 9000 ∧ F 0 = N ∧ rIV N c t nx ∧ nx ≤ 9000 ∧ B ≤ bm
theorem gMO.lp {V : Nat → Int32} {F : Nat → Nat → Int32} {B : Nat} (G : gMO Γ de h m V F B) (hB : B ≤ 9000) : ∃ nx, lP B Γ de h m (F 0) (rc (F 0)) (rtt (F 0)) nx := by
  obtain ⟨nx, o, svv, hl, tt, bu, sb, fo, -, -, I, hn⟩ := G.ro
  exact ⟨nx, V, F, B, G, hB, rfl, I, by omega, Nat.le_refl _⟩
theorem lP.iv (H : lP bm Γ de h m N c t nx) : rIV N c t nx ∧ nx ≤ 9000 := by
  obtain ⟨V, F, B, -, -, -, I, hn, -⟩ := H
  exact ⟨I, hn⟩
theorem lP.at12 (H : lP bm Γ de h m N c t nx) : ∃ fs, h m = some (gJ 12 fs) := by
  obtain ⟨V, F, B, G, -⟩ := H
  exact G.at12
theorem rIV.place (I : rIV N c t nx) {p : Nat} (hp : p < c) : rPlace N (N (62 + 7 * p)) c = nI p := rPlace_at rfl hp (fun j h1 h2 e => I.uq p j h1 h2 e.symm)
theorem rIV.let9 (I : rIV N c t nx) {p : Nat} (hp : p < c) : ∃ i cd w pr q, N (62 + 7 * p) = nI i ∧ i < nx ∧ N (62 + 7 * p + 1) = nI cd ∧ cd < 10000 ∧ N (62 + 7 * p + 2) = nI w ∧ 1 ≤ w ∧ w ≤ 50 ∧ N (62 + 7 * p + 3) = nI pr ∧ pr ≤ 1 ∧ N (62 + 7 * p + 4) = nI q ∧ q < 3 ∧ (N (62 + 7 * p + 5) = -1 ∨ ∃ a b, a ≤ 5 ∧ b < rg N a ∧ N (62 + 7 * p + 5) = nI a ∧ N (62 + 7 * p + 6) = nI b) := I.li.ok (lqN N p) (List.mem_of_getElem? (lqs_get hp))
theorem rIV.pl1 (I : rIV N c t nx) {p : Nat} (hp : p < c) : ¬ rPlace N (N (62 + 7 * p)) c = -1 := by
  have := I.hc
  rw [I.place hp]
  exact nI_nm1 (by omega)
theorem rIV.ix (I : rIV N c t nx) {p : Nat} (hp : p < c) : rIdx N (N (62 + 7 * p)) c = p := by
  have := I.hc
  exact rIdx_of (by omega) (I.place hp)
theorem lq_t {p : Prop} [Decidable p] (hp : p) : rT (bI p) (nI 1) (nI 1) = 0 := by rw [bI_t hp]; exact rT_0
theorem lq_f {p : Prop} [Decidable p] (hp : ¬ p) : rT (bI p) (nI 1) (nI 1) = nI 1 := by rw [bI_f hp]; exact rT_1
theorem r_n {r : Nat} (hr : r < 6) : nI 0 ≤ nI r ∧ nI r ≤ nI 5 := ⟨nI_le (Nat.zero_le _) (by omega), nI_le (by omega) (by omega)⟩
theorem lr_hour (H : lP bm Γ de h m N c t nx) : pC Γ M_X9_hour [.ref m] h 30 (some (.int (N 0))) := by
  obtain ⟨V, F, B, G, hB, rfl, I, hn, hbm⟩ := H
  have ec := I.c_eq
  have et := I.t_eq
  subst ec
  subst et
  exact fa_hour G hB
theorem lr_deliveredCount (H : lP bm Γ de h m N c t nx) : pC Γ M_X9_deliveredCount [.ref m] h 30 (some (.int (N 5))) := by
  obtain ⟨V, F, B, G, hB, rfl, I, hn, hbm⟩ := H
  have ec := I.c_eq
  have et := I.t_eq
  subst ec
  subst et
  exact fa_deliveredCount G hB
theorem lr_deadCount (H : lP bm Γ de h m N c t nx) : pC Γ M_X9_deadCount [.ref m] h 30 (some (.int (N 6))) := by
  obtain ⟨V, F, B, G, hB, rfl, I, hn, hbm⟩ := H
  have ec := I.c_eq
  have et := I.t_eq
  subst ec
  subst et
  exact fa_deadCount G hB
theorem lr_lateCount (H : lP bm Γ de h m N c t nx) : pC Γ M_X9_lateCount [.ref m] h 30 (some (.int (rLt N t c))) := by
  obtain ⟨V, F, B, G, hB, rfl, I, hn, hbm⟩ := H
  have ec := I.c_eq
  have et := I.t_eq
  subst ec
  subst et
  exact fa_lateCount G hB
theorem lr_missortedCount (H : lP bm Γ de h m N c t nx) : pC Γ M_X9_missortedCount [.ref m] h 30 (some (.int (rMs N t c))) := by
  obtain ⟨V, F, B, G, hB, rfl, I, hn, hbm⟩ := H
  have ec := I.c_eq
  have et := I.t_eq
  subst ec
  subst et
  exact fa_missortedCount G hB
theorem lr_letterCount (H : lP bm Γ de h m N c t nx) : pC Γ M_X9_letterCount [.ref m] h 30 (some (.int (nI c))) := by
  obtain ⟨V, F, B, G, hB, rfl, I, hn, hbm⟩ := H
  have ec := I.c_eq
  have et := I.t_eq
  subst ec
  subst et
  exact fAn_x (fa_letterCount G hB) (by rw [I.h3])
theorem lr_isPresent (H : lP bm Γ de h m N c t nx) {p : Nat} (hpc : p < c) : pC Γ M_X9_isPresent [.ref m, .int (N (62 + 7 * p))] h 30 (some (.int (nI 1))) := by
  obtain ⟨V, F, B, G, hB, rfl, I, hn, hbm⟩ := H
  have ec := I.c_eq
  have et := I.t_eq
  subst ec
  subst et
  exact fAn_x (fa_isPresent G hB _) (by rw [bI_t (I.pl1 hpc)])
theorem rIV.no1 (I : rIV N c t nx) (hn : nx ≤ 9000) : rPlace N (-1) c = -1 := rPlace_no (fun j hj e => by
  obtain ⟨i, cd, w, pr, q, e1, h1, -⟩ := I.let9 hj
  rw [e1] at e
  exact nI_nm1 (by omega) e)
theorem lr_isPresent_no (H : lP bm Γ de h m N c t nx) : pC Γ M_X9_isPresent [.ref m, .int (-1)] h 30 (some (.int (nI 0))) := by
  obtain ⟨V, F, B, G, hB, rfl, I, hn, hbm⟩ := H
  have ec := I.c_eq
  have et := I.t_eq
  subst ec
  subst et
  exact fAn_x (fa_isPresent G hB _) (by rw [bI_f (fun z => z (I.no1 hn))])
theorem lr_codeOf (hp : gPxs Γ) (H : lP bm Γ de h m N c t nx) {p : Nat} (hpc : p < c) : pC Γ M_X9_codeOf [.ref m, .int (N (62 + 7 * p))] h 30 (some (.int (N (62 + 7 * p + 1)))) := by
  obtain ⟨V, F, B, G, hB, rfl, I, hn, hbm⟩ := H
  have ec := I.c_eq
  have et := I.t_eq
  subst ec
  subst et
  have e0 := lq_t (I.pl1 hpc)
  have z := (fa_codeOf hp G hB (F 0 (62 + 7 * p))).1 e0
  rw [if_pos e0, I.ix hpc] at z
  exact z
theorem lr_weightOf (hp : gPxs Γ) (H : lP bm Γ de h m N c t nx) {p : Nat} (hpc : p < c) : pC Γ M_X9_weightOf [.ref m, .int (N (62 + 7 * p))] h 30 (some (.int (N (62 + 7 * p + 2)))) := by
  obtain ⟨V, F, B, G, hB, rfl, I, hn, hbm⟩ := H
  have ec := I.c_eq
  have et := I.t_eq
  subst ec
  subst et
  have e0 := lq_t (I.pl1 hpc)
  have z := (fa_weightOf hp G hB (F 0 (62 + 7 * p))).1 e0
  rw [if_pos e0, I.ix hpc] at z
  exact z
theorem lr_returnsOf (hp : gPxs Γ) (H : lP bm Γ de h m N c t nx) {p : Nat} (hpc : p < c) : pC Γ M_X9_returnsOf [.ref m, .int (N (62 + 7 * p))] h 30 (some (.int (N (62 + 7 * p + 4)))) := by
  obtain ⟨V, F, B, G, hB, rfl, I, hn, hbm⟩ := H
  have ec := I.c_eq
  have et := I.t_eq
  subst ec
  subst et
  have e0 := lq_t (I.pl1 hpc)
  have z := (fa_returnsOf hp G hB (F 0 (62 + 7 * p))).1 e0
  rw [if_pos e0, I.ix hpc] at z
  exact z
theorem lr_isPriority (hp : gPxs Γ) (H : lP bm Γ de h m N c t nx) {p : Nat} (hpc : p < c) : pC Γ M_X9_isPriority [.ref m, .int (N (62 + 7 * p))] h 30 (some (.int (bI (N (62 + 7 * p + 3) = nI 1)))) := by
  obtain ⟨V, F, B, G, hB, rfl, I, hn, hbm⟩ := H
  have ec := I.c_eq
  have et := I.t_eq
  subst ec
  subst et
  have e0 := lq_t (I.pl1 hpc)
  have z := (fa_isPriority hp G hB (F 0 (62 + 7 * p))).1 e0
  rw [bI_cg (q := F 0 (62 + 7 * p + 3) = nI 1) (by rw [if_pos e0, I.ix hpc])] at z
  exact z
theorem lr_isInTray (hp : gPxs Γ) (H : lP bm Γ de h m N c t nx) {p : Nat} (hpc : p < c) : pC Γ M_X9_isInTray [.ref m, .int (N (62 + 7 * p))] h 30 (some (.int (bI (N (62 + 7 * p + 5) = -1)))) := by
  obtain ⟨V, F, B, G, hB, rfl, I, hn, hbm⟩ := H
  have ec := I.c_eq
  have et := I.t_eq
  subst ec
  subst et
  have e0 := lq_t (I.pl1 hpc)
  have z := (fa_isInTray hp G hB (F 0 (62 + 7 * p))).1 e0
  rw [bI_cg (q := F 0 (62 + 7 * p + 5) = -1) (by rw [if_pos e0, I.ix hpc])] at z
  exact z
theorem lr_isMissorted (hp : gPxs Γ) (H : lP bm Γ de h m N c t nx) {p : Nat} (hpc : p < c) : pC Γ M_X9_isMissorted [.ref m, .int (N (62 + 7 * p))] h 30 (some (.int (bI (rWr N p t = true)))) := by
  obtain ⟨V, F, B, G, hB, rfl, I, hn, hbm⟩ := H
  have ec := I.c_eq
  have et := I.t_eq
  subst ec
  subst et
  have e0 := lq_t (I.pl1 hpc)
  have z := (fa_isMissorted hp G hB (F 0 (62 + 7 * p))).1 e0
  rw [if_pos e0, I.ix hpc] at z
  exact z
theorem lr_canSort (hp : gPxs Γ) (H : lP bm Γ de h m N c t nx) {p : Nat} (hpc : p < c) : pC Γ M_X9_canSort [.ref m, .int (N (62 + 7 * p))] h 30 (some (.int (bI (rGo N p (rLR N p t) c (rOp N (rLR N p t)) = true)))) := by
  obtain ⟨V, F, B, G, hB, rfl, I, hn, hbm⟩ := H
  have ec := I.c_eq
  have et := I.t_eq
  subst ec
  subst et
  have e0 := lq_t (I.pl1 hpc)
  have z := (fa_canSort hp G hB (F 0 (62 + 7 * p))).1 e0
  unfold rSrt at z
  rw [if_pos e0, I.ix hpc] at z
  exact z
theorem lr_bagOf (hp : gPxs Γ) (H : lP bm Γ de h m N c t nx) {p : Nat} (hpc : p < c) (h5 : ¬ N (62 + 7 * p + 5) = -1) : pC Γ M_X9_bagOf [.ref m, .int (N (62 + 7 * p))] h 30 (some (.int (N (62 + 7 * p + 6)))) := by
  obtain ⟨V, F, B, G, hB, rfl, I, hn, hbm⟩ := H
  have ec := I.c_eq
  have et := I.t_eq
  subst ec
  subst et
  have e0 : rT (bI (¬ rPlace (F 0) (F 0 (62 + 7 * p)) (rc (F 0)) = -1)) (bI (¬ F 0 (62 + 7 * rIdx (F 0) (F 0 (62 + 7 * p)) (rc (F 0)) + 5) = -1)) (nI 1) = 0 := by
    rw [I.ix hpc, bI_t (I.pl1 hpc), bI_t h5]
    exact rT_0
  have z := (fa_bagOf hp G hB (F 0 (62 + 7 * p))).1 e0
  rw [if_pos e0, I.ix hpc] at z
  exact z
theorem lr_idAt (hp : gPxs Γ) (H : lP bm Γ de h m N c t nx) {p : Nat} (hpc : p < c) : pC Γ M_X9_idAt [.ref m, .int (nI p)] h 30 (some (.int (N (62 + 7 * p)))) := by
  obtain ⟨V, F, B, G, hB, rfl, I, hn, hbm⟩ := H
  have ec := I.c_eq
  have et := I.t_eq
  subst ec
  subst et
  have hc := I.hc
  have e0 : rT (bI (nI 0 ≤ nI p ∧ nI p ≤ F 0 3 - nI 1)) (nI 1) (nI 1) = 0 := lq_t (by rw [I.h3]; exact in_rgi (by omega) hpc)
  have z := (fa_idAt hp G hB (nI p)).1 e0
  rw [if_pos e0, nI_clamp (by omega)] at z
  exact z
theorem lr_routeWeight (hp : gPxs Γ) (H : lP bm Γ de h m N c t nx) {r : Nat} (hr : r < 6) : pC Γ M_X9_routeWeight [.ref m, .int (nI r)] h 30 (some (.int (rWt N (nI r) (-1) c))) := by
  obtain ⟨V, F, B, G, hB, rfl, I, hn, hbm⟩ := H
  have ec := I.c_eq
  have et := I.t_eq
  subst ec
  subst et
  have e0 := lq_t (r_n hr)
  have z := (fa_routeWeight hp G hB (nI r)).1 e0
  rw [if_pos e0] at z
  exact z
theorem lr_freeWeight (hp : gPxs Γ) (H : lP bm Γ de h m N c t nx) {r : Nat} (hr : r < 6) : pC Γ M_X9_freeWeight [.ref m, .int (nI r)] h 30 (some (.int (nI 450 - rWt N (nI r) (-1) c))) := by
  obtain ⟨V, F, B, G, hB, rfl, I, hn, hbm⟩ := H
  have ec := I.c_eq
  have et := I.t_eq
  subst ec
  subst et
  have e0 := lq_t (r_n hr)
  have z := (fa_freeWeight hp G hB (nI r)).1 e0
  rw [if_pos e0] at z
  exact z
theorem lr_hoursToDeparture (hp : gPxs Γ) (H : lP bm Γ de h m N c t nx) {r : Nat} (hr : r < 6) : pC Γ M_X9_hoursToDeparture [.ref m, .int (nI r)] h 30 (some (.int (rHt N (nI r)))) := by
  obtain ⟨V, F, B, G, hB, rfl, I, hn, hbm⟩ := H
  have ec := I.c_eq
  have et := I.t_eq
  subst ec
  subst et
  have e0 := lq_t (r_n hr)
  have z := (fa_hoursToDeparture hp G hB (nI r)).1 e0
  rw [if_pos e0] at z
  exact z
theorem lr_routeWeightByBags (hp : gPxs Γ) (H : lP bm Γ de h m N c t nx) {r : Nat} (hr : r < 6) : pC Γ M_X9_routeWeightByBags [.ref m, .int (nI r)] h 30 (some (.int (rWt N (nI r) (-1) c))) := by
  obtain ⟨V, F, B, G, hB, rfl, I, hn, hbm⟩ := H
  have ec := I.c_eq
  have et := I.t_eq
  subst ec
  subst et
  have e0 := lq_t (r_n hr)
  have z := (fa_routeWeightByBags hp G hB (nI r)).1 e0
  rw [if_pos e0] at z
  exact z
theorem lr_codesOf (hp : gPxs Γ) (H : lP bm Γ de h m N c t nx) {r : Nat} (hr : r < 6) : pC Γ M_X9_codesOf [.ref m, .int (nI r)] h 30 (some (.int (nI (ctR N t (nI r) 10000)))) := by
  obtain ⟨V, F, B, G, hB, rfl, I, hn, hbm⟩ := H
  have ec := I.c_eq
  have et := I.t_eq
  subst ec
  subst et
  have e0 := lq_t (r_n hr)
  have z := (fa_codesOf hp G hB (nI r)).1 e0
  rw [if_pos e0, codes_of I.ht I.pv I.up (nI_nm1 (by omega))] at z
  exact z
theorem lr_bagCount (hp : gPxs Γ) (H : lP bm Γ de h m N c t nx) {r : Nat} (hr : r < 6) : pC Γ M_X9_bagCount [.ref m, .int (nI r)] h 30 (some (.int (nI (rg N r)))) := by
  obtain ⟨V, F, B, G, hB, rfl, I, hn, hbm⟩ := H
  have ec := I.c_eq
  have et := I.t_eq
  subst ec
  subst et
  have e0 := lq_t (r_n hr)
  have z := (fa_bagCount hp G hB (nI r)).1 e0
  rw [if_pos (r_n hr), rIx_nI (by omega), (I.g3 (a := r) (by omega)).2] at z
  exact z
theorem lr_cutoff (hp : gPxs Γ) (H : lP bm Γ de h m N c t nx) {r : Nat} (hr : r < 6) : pC Γ M_X9_cutoff [.ref m, .int (nI r)] h 30 (some (.int (N (8 + 3 * r)))) := by
  obtain ⟨V, F, B, G, hB, rfl, I, hn, hbm⟩ := H
  have ec := I.c_eq
  have et := I.t_eq
  subst ec
  subst et
  have e0 := lq_t (r_n hr)
  have z := (fa_cutoff hp G hB (nI r)).1 e0
  rw [if_pos (r_n hr), rIx_nI (by omega)] at z
  exact z
theorem lr_departure (hp : gPxs Γ) (H : lP bm Γ de h m N c t nx) {r : Nat} (hr : r < 6) : pC Γ M_X9_departure [.ref m, .int (nI r)] h 30 (some (.int (N (8 + 3 * r + 1)))) := by
  obtain ⟨V, F, B, G, hB, rfl, I, hn, hbm⟩ := H
  have ec := I.c_eq
  have et := I.t_eq
  subst ec
  subst et
  have e0 := lq_t (r_n hr)
  have z := (fa_departure hp G hB (nI r)).1 e0
  rw [if_pos (r_n hr), rIx_nI (by omega)] at z
  exact z
theorem lr_matchLength (hp : gPxs Γ) (H : lP bm Γ de h m N c t nx) {cd : Nat} (hcd : cd < 10000) : pC Γ M_X9_matchLength [.ref m, .int (nI cd)] h 30 (some (.int (nI (lnt N t cd)))) := by
  obtain ⟨V, F, B, G, hB, rfl, I, hn, hbm⟩ := H
  have ec := I.c_eq
  have et := I.t_eq
  subst ec
  subst et
  have e0 := lq_t (cd_in hcd)
  have z := (fa_matchLength hp G hB (nI cd)).1 e0
  rw [if_pos e0, (ml_lnt I.ht I.pv I.up hcd).1] at z
  exact z
theorem lr_routeFor (hp : gPxs Γ) (H : lP bm Γ de h m N c t nx) {cd : Nat} (hcd : cd < 10000) (hl : ¬ lnt N t cd = 0) : pC Γ M_X9_routeFor [.ref m, .int (nI cd)] h 30 (some (.int (rRoute N (nI cd) t))) := by
  obtain ⟨V, F, B, G, hB, rfl, I, hn, hbm⟩ := H
  have ec := I.c_eq
  have et := I.t_eq
  subst ec
  subst et
  have hr := (not_congr (ml_lnt I.ht I.pv I.up hcd).2).mpr hl
  have e0 : rT (bI (nI 0 ≤ nI cd ∧ nI cd ≤ nI 9999)) (bI ((nI 0 ≤ nI cd ∧ nI cd ≤ nI 9999) ∧ ¬ rRoute (F 0) (nI cd) (rtt (F 0)) = -1)) (nI 1) = 0 := by
    rw [bI_t (cd_in hcd), bI_t ⟨cd_in hcd, hr⟩]
    exact rT_0
  have z := (fa_routeFor hp G hB (nI cd)).1 e0
  rw [if_pos e0] at z
  exact z
theorem lr_hasPrefix (hp : gPxs Γ) (H : lP bm Γ de h m N c t nx) {d l : Nat} (hd : d < 2147483648) (hl : l < 2147483648) (hx : rPx (nI d) (nI l) = true) : pC Γ M_X9_hasPrefix [.ref m, .int (nI d), .int (nI l)] h 30 (some (.int (bI (¬ lkN N t l d = -1)))) := by
  obtain ⟨V, F, B, G, hB, rfl, I, hn, hbm⟩ := H
  have ec := I.c_eq
  have et := I.t_eq
  subst ec
  subst et
  have e0 := lq_t hx
  have z := (fa_hasPrefix hp G hB (nI d) (nI l)).1 e0
  rw [if_pos e0, bI_cg (not_congr (find_lk I.ht I.pv hd hl (rtt (F 0)) (Nat.le_refl _)))] at z
  exact z
theorem lr_meanWeight (hp : gPxs Γ) (H : lP bm Γ de h m N c t nx) (h0 : ¬ c = 0) : pC Γ M_X9_meanWeight [.ref m] h 30 (some (.double (rMw N c))) := by
  obtain ⟨V, F, B, G, hB, rfl, I, hn, hbm⟩ := H
  have ec := I.c_eq
  have et := I.t_eq
  subst ec
  subst et
  have e0 : (if rc (F 0) = 0 then nI 1 else nI 0) = 0 := by rw [if_neg h0]; exact z0
  have z := (fa_meanWeight hp G hB).1 e0
  rw [if_neg h0] at z
  exact z
theorem lr_deliveredShare (hp : gPxs Γ) (H : lP bm Γ de h m N c t nx) (h0 : ¬ nx = 0) : pC Γ M_X9_deliveredShare [.ref m] h 30 (some (.float (rSh2 N))) := by
  obtain ⟨V, F, B, G, hB, rfl, I, hn, hbm⟩ := H
  have ec := I.c_eq
  have et := I.t_eq
  subst ec
  subst et
  have en : (F 0 2).toNatClampNeg = nx := by rw [I.n2, nI_clamp (by omega)]
  have e0 : (if (F 0 2).toNatClampNeg = 0 then nI 1 else nI 0) = 0 := by rw [en, if_neg h0]; exact z0
  have z := (fa_deliveredShare hp G hB).1 e0
  rw [en, if_neg h0] at z
  exact z
end GLc
