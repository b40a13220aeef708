/-! THE LAW: what its questions answer -/
section GLd
variable {Γ : gE} {bm de mi : Nat} {h : gHp} {m : Nat} {N : Nat → Int32} {c t nx : Nat}
theorem lq_t2 {p q : Prop} [Decidable p] [Decidable q] (hp : p) (hq : q) : rT (bI p) (bI q) (nI 1) = 0 := by rw [bI_t hp, bI_t hq]; exact rT_0
theorem rv_1 {p : Prop} [Decidable p] {b c x : Int32} {e1 e2 e3 : String} (hp : ¬ p) : (if rT (bI p) b c = 0 then x else xcd (nmOf e1 e2 e3 (rT (bI p) b c))) = xcd e1 := by
  rw [bI_f hp, rT_1, if_neg n1x, nm1]
theorem rv_2 {p q : Prop} [Decidable p] [Decidable q] {c x : Int32} {e1 e2 e3 : String} (hp : p) (hq : ¬ q) : (if rT (bI p) (bI q) c = 0 then x else xcd (nmOf e1 e2 e3 (rT (bI p) (bI q) c))) = xcd e2 := by
  rw [bI_t hp, bI_f hq, rT_2, if_neg n2x, nm2]
theorem lP.of {V : Nat → Int32} {F : Nat → Nat → Int32} {B : Nat} (G : gMO Γ de h m V F B) (hB : B ≤ 9000) (e : F 0 = N) (I : rIV N c t nx) (hn : nx ≤ 9000) (hbm : B ≤ bm) : lP bm Γ de h m N c t nx := ⟨V, F, B, G, hB, e, I, hn, hbm⟩
def tyL (N : Nat → Int32) (c : Nat) : List Nat := gTI N (nI 1) c ++ gTI N (nI 0) c
theorem tyL_len (I : rIV N c t nx) : (tyL N c).length ≤ 40 := by
  have h1 := gTI_len (N := N) (p := nI 1) (c := c)
  have h2 := gTI_len (N := N) (p := nI 0) (c := c)
  have := I.hc
  unfold tyL
  rw [List.length_append]
  omega
theorem tyL_m {i : Nat} (h : i ∈ tyL N c) : i < c ∧ N (62 + 7 * i + 5) = -1 := by
  rcases List.mem_append.mp h with z | z
  · exact ⟨(gTI_m z).1, (gTy_iff.mp (gTI_m z).2).1⟩
  · exact ⟨(gTI_m z).1, (gTy_iff.mp (gTI_m z).2).1⟩
theorem rTr_L (I : rIV N c t nx) (p : Int32) : (rTr N p c (2 * c)).2 = tqL N p (tyL N c) := by
  rw [rTr_T I.hc _ (Nat.le_refl _), TLk_2]
  rfl
theorem tq_out {p : Int32} {l : List Nat} (hp : p < 0 ∨ p = nI l.length) (hl : l.length < 1000) : tqL N p l = -1 := by
  unfold tqL
  refine if_neg (fun z => ?_)
  rcases hp with y | y
  · exact z.1 y
  · rw [y, nI_clamp (by omega)] at z
    omega
theorem tq_in {k i : Nat} {l : List Nat} (hk : l[k]? = some i) (hl : l.length < 1000) : tqL N (nI k) l = N (62 + 7 * i) := by
  have := (List.getElem?_eq_some_iff.mp hk).1
  unfold tqL
  rw [nI_clamp (by omega), if_pos ⟨nI_nn (by omega), this⟩, hk]
  rfl
theorem aq_2 (hp : gPxs Γ) (hnc : gPnc Γ) (H : lP bm Γ de h m N c t nx) {p : Nat} (hpc : p < c) : gC Γ M_L_ask [.ref m, .int (nI 2), .int (N (62 + 7 * p)), .int (nI 0)] h 32 1 6 (fun v h' => v = some (.int (if N (62 + 7 * p + 5) = -1 then (-2005) else N (62 + 7 * p + 5))) ∧ h' = h) (fun _ _ => False) := by
  obtain ⟨V, F, B, G, hB, rfl, I, hn, hbm⟩ := H
  have ec := I.c_eq
  have et := I.t_eq
  subst ec
  subst et
  obtain ⟨fs, hm⟩ := G.at12
  have k := ak_go hnc (fun _ => nm_ex e_NS e_IS e_IS) (as_routeOfBag hm (F 0 (62 + 7 * p)) (nI 0) (fa_routeOfBag hp G hB (F 0 (62 + 7 * p))).go)
  refine gC_post k (fun v h' z => ⟨z.1.trans (congrArg (fun y => some (Value.int y)) ?_), z.2⟩) (fun _ _ z => z)
  by_cases h5 : F 0 (62 + 7 * p + 5) = -1
  · rw [if_pos h5]
    exact (rv_2 (I.pl1 hpc) (by rw [I.ix hpc]; exact fun z => z h5)).trans xc_IS
  · rw [if_neg h5]
    have q : ¬ F 0 (62 + 7 * rIdx (F 0) (F 0 (62 + 7 * p)) (rc (F 0)) + 5) = -1 := by rw [I.ix hpc]; exact h5
    refine (if_pos (lq_t2 (I.pl1 hpc) q)).trans ((if_pos (lq_t2 (I.pl1 hpc) q)).trans ?_)
    rw [I.ix hpc]
theorem aq_0 (hp : gPxs Γ) (hnc : gPnc Γ) (H : lP bm Γ de h m N c t nx) : gC Γ M_L_ask [.ref m, .int (nI 0), .int (nI c), .int (nI 0)] h 32 1 6 (fun v h' => v = some (.int (-2002)) ∧ h' = h) (fun _ _ => False) := by
  obtain ⟨V, F, B, G, hB, rfl, I, hn, hbm⟩ := H
  have ec := I.c_eq
  have et := I.t_eq
  subst ec
  subst et
  obtain ⟨fs, hm⟩ := G.at12
  have k := ak_go hnc (fun _ => nm_ex e_IO e_IO e_IO) (as_idAt hm (nI (rc (F 0))) (nI 0) (fa_idAt hp G hB (nI (rc (F 0)))).go)
  refine gC_post k (fun v h' z => ⟨z.1.trans (congrArg (fun y => some (Value.int y)) ?_), z.2⟩) (fun _ _ z => z)
  refine (rv_1 (fun z => ?_)).trans xc_IO
  rw [I.h3] at z
  have hc := I.hc
  obtain ⟨k, hk, e⟩ := in_rg (by omega) z
  have := (nI_eq (by omega) (by omega)).mp e
  omega
theorem aq_1 (hp : gPxs Γ) (hnc : gPnc Γ) (H : lP bm Γ de h m N c t nx) : gC Γ M_L_ask [.ref m, .int (nI 1), .int (-1), .int (nI 0)] h 32 1 6 (fun v h' => v = some (.int (-2004)) ∧ h' = h) (fun _ _ => False) := by
  obtain ⟨V, F, B, G, hB, rfl, I, hn, hbm⟩ := H
  have ec := I.c_eq
  have et := I.t_eq
  subst ec
  subst et
  obtain ⟨fs, hm⟩ := G.at12
  have k := ak_go hnc (fun _ => nm_ex e_NS e_NS e_NS) (as_codeOf hm (-1) (nI 0) (fa_codeOf hp G hB (-1)).go)
  refine gC_post k (fun v h' z => ⟨z.1.trans (congrArg (fun y => some (Value.int y)) ?_), z.2⟩) (fun _ _ z => z)
  exact (rv_1 (fun z => z (I.no1 hn))).trans xc_NS
theorem aq_5 (hp : gPxs Γ) (hnc : gPnc Γ) (H : lP bm Γ de h m N c t nx) {cd : Nat} (hcd : cd < 10000) : gC Γ M_L_ask [.ref m, .int (nI 5), .int (nI cd), .int (nI 0)] h 32 1 6 (fun v h' => v = some (.int (if lnt N t cd = 0 then (-2004) else rRoute N (nI cd) t)) ∧ h' = h) (fun _ _ => False) := by
  obtain ⟨V, F, B, G, hB, rfl, I, hn, hbm⟩ := H
  have ec := I.c_eq
  have et := I.t_eq
  subst ec
  subst et
  obtain ⟨fs, hm⟩ := G.at12
  have k := ak_go hnc (fun _ => nm_ex e_IA e_NS e_NS) (as_routeFor hm (nI cd) (nI 0) (fa_routeFor hp G hB (nI cd)).go)
  refine gC_post k (fun v h' z => ⟨z.1.trans (congrArg (fun y => some (Value.int y)) ?_), z.2⟩) (fun _ _ z => z)
  by_cases hr : rRoute (F 0) (nI cd) (rtt (F 0)) = -1
  · rw [if_pos ((ml_lnt I.ht I.pv I.up hcd).2.mp hr)]
    exact (rv_2 (cd_in hcd) (fun z => z.2 hr)).trans xc_NS
  · rw [if_neg (fun z => hr ((ml_lnt I.ht I.pv I.up hcd).2.mpr z))]
    exact (if_pos (lq_t2 (cd_in hcd) ⟨cd_in hcd, hr⟩)).trans (if_pos (lq_t2 (cd_in hcd) ⟨cd_in hcd, hr⟩))
theorem aq_5x (hp : gPxs Γ) (hnc : gPnc Γ) (H : lP bm Γ de h m N c t nx) : gC Γ M_L_ask [.ref m, .int (nI 5), .int (nI 10000), .int (nI 0)] h 32 1 6 (fun v h' => v = some (.int (-2003)) ∧ h' = h) (fun _ _ => False) := by
  obtain ⟨V, F, B, G, hB, rfl, I, hn, hbm⟩ := H
  have ec := I.c_eq
  have et := I.t_eq
  subst ec
  subst et
  obtain ⟨fs, hm⟩ := G.at12
  have k := ak_go hnc (fun _ => nm_ex e_IA e_NS e_NS) (as_routeFor hm (nI 10000) (nI 0) (fa_routeFor hp G hB (nI 10000)).go)
  refine gC_post k (fun v h' z => ⟨z.1.trans (congrArg (fun y => some (Value.int y)) ?_), z.2⟩) (fun _ _ z => z)
  exact (rv_1 (fun z => absurd z.2 (by decide))).trans xc_IA
theorem aq_6 (hp : gPxs Γ) (hnc : gPnc Γ) (H : lP bm Γ de h m N c t nx) {cd : Nat} (hcd : cd < 10000) : gC Γ M_L_ask [.ref m, .int (nI 6), .int (nI cd), .int (nI 0)] h 32 1 6 (fun v h' => v = some (.int (if lnt N t cd = 0 then (-2004) else rRoute N (nI cd) t)) ∧ lP bm Γ de h' m N c t nx) (fun _ _ => False) := by
  obtain ⟨V, F, B, G, hB, rfl, I, hn, hbm⟩ := H
  have ec := I.c_eq
  have et := I.t_eq
  subst ec
  subst et
  obtain ⟨fs, hm⟩ := G.at12
  have k := akC_go hnc (fun _ => nm_ex e_IA e_NS e_NS) (as_routeForByTree hm (nI cd) (nI 0) (fa_routeForByTree hp G hB (nI cd)).go)
  refine gC_post k (fun v h' z => ⟨z.1.trans (congrArg (fun y => some (Value.int y)) ?_), lP.of z.2.1 hB rfl I hn hbm⟩) (fun _ _ z => z)
  by_cases hr : rRoute (F 0) (nI cd) (rtt (F 0)) = -1
  · rw [if_pos ((ml_lnt I.ht I.pv I.up hcd).2.mp hr)]
    exact (rv_2 (cd_in hcd) (fun z => z.2 hr)).trans xc_NS
  · rw [if_neg (fun z => hr ((ml_lnt I.ht I.pv I.up hcd).2.mpr z))]
    exact (if_pos (lq_t2 (cd_in hcd) ⟨cd_in hcd, hr⟩)).trans (if_pos (lq_t2 (cd_in hcd) ⟨cd_in hcd, hr⟩))
theorem aq_6x (hp : gPxs Γ) (hnc : gPnc Γ) (H : lP bm Γ de h m N c t nx) : gC Γ M_L_ask [.ref m, .int (nI 6), .int (-1), .int (nI 0)] h 32 1 6 (fun v h' => v = some (.int (-2003)) ∧ lP bm Γ de h' m N c t nx) (fun _ _ => False) := by
  obtain ⟨V, F, B, G, hB, rfl, I, hn, hbm⟩ := H
  have ec := I.c_eq
  have et := I.t_eq
  subst ec
  subst et
  obtain ⟨fs, hm⟩ := G.at12
  have k := akC_go hnc (fun _ => nm_ex e_IA e_NS e_NS) (as_routeForByTree hm (-1) (nI 0) (fa_routeForByTree hp G hB (-1)).go)
  refine gC_post k (fun v h' z => ⟨z.1.trans (congrArg (fun y => some (Value.int y)) ?_), lP.of z.2.1 hB rfl I hn hbm⟩) (fun _ _ z => z)
  exact (rv_1 (fun z => absurd z.1 (by decide))).trans xc_IA
theorem aq_7x (hp : gPxs Γ) (hnc : gPnc Γ) (H : lP bm Γ de h m N c t nx) : gC Γ M_L_ask [.ref m, .int (nI 7), .int (nI 10000), .int (nI 0)] h 32 1 6 (fun v h' => v = some (.int (-2003)) ∧ h' = h) (fun _ _ => False) := by
  obtain ⟨V, F, B, G, hB, rfl, I, hn, hbm⟩ := H
  have ec := I.c_eq
  have et := I.t_eq
  subst ec
  subst et
  obtain ⟨fs, hm⟩ := G.at12
  have k := ak_go hnc (fun _ => nm_ex e_IA e_IA e_IA) (as_matchLength hm (nI 10000) (nI 0) (fa_matchLength hp G hB (nI 10000)).go)
  refine gC_post k (fun v h' z => ⟨z.1.trans (congrArg (fun y => some (Value.int y)) ?_), z.2⟩) (fun _ _ z => z)
  exact (rv_1 (fun z => absurd z.2 (by decide))).trans xc_IA
theorem as_hp {a b : Int32} {fs : List Value} (hm : h m = some (gJ 12 fs)) {τ x : Int32} {nm : Int32 → String} (hx : x = nI 0 ∨ x = nI 1) (c9 : fQ Γ M_X9_hasPrefix [.ref m, .int a, .int b] h τ (.int x) nm) : gC Γ M_L_asked [.ref m, .int (nI 16), .int a, .int b] h 31 1 6 (fun v h' => ∃ y, v = some (.int y) ∧ (τ = 0 ∧ y = x ∧ h' = h)) (fun E h' => ¬ τ = 0 ∧ E = nm τ ∧ h' = h) :=
  as_hasPrefix hm a b (gC_post c9.go (fun v h' z => by
    obtain ⟨y, e, z1, z2, z3⟩ := z
    refine ⟨y, e, z1, ?_, z3⟩
    rw [z2]
    rcases hx with w | w <;> (subst w; decide)) (fun _ _ z => z))
theorem aq_16x (hp : gPxs Γ) (hnc : gPnc Γ) (H : lP bm Γ de h m N c t nx) : gC Γ M_L_ask [.ref m, .int (nI 16), .int (nI 10), .int (nI 1)] h 32 1 6 (fun v h' => v = some (.int (-2003)) ∧ h' = h) (fun _ _ => False) := by
  obtain ⟨V, F, B, G, hB, rfl, I, hn, hbm⟩ := H
  have ec := I.c_eq
  have et := I.t_eq
  subst ec
  subst et
  obtain ⟨fs, hm⟩ := G.at12
  have hx : ¬ rPx (nI 10) (nI 1) = true := by decide
  have k := ak_go hnc (fun _ => nm_ex e_IA e_IA e_IA) (as_hp hm (Or.inl (if_neg (by rw [lq_f hx]; exact n1x))) (fa_hasPrefix hp G hB (nI 10) (nI 1)))
  refine gC_post k (fun v h' z => ⟨z.1.trans (congrArg (fun y => some (Value.int y)) ?_), z.2⟩) (fun _ _ z => z)
  exact (rv_1 hx).trans xc_IA
theorem aq_16y (hp : gPxs Γ) (hnc : gPnc Γ) (H : lP bm Γ de h m N c t nx) : gC Γ M_L_ask [.ref m, .int (nI 16), .int (nI 0), .int (nI 5)] h 32 1 6 (fun v h' => v = some (.int (-2003)) ∧ h' = h) (fun _ _ => False) := by
  obtain ⟨V, F, B, G, hB, rfl, I, hn, hbm⟩ := H
  have ec := I.c_eq
  have et := I.t_eq
  subst ec
  subst et
  obtain ⟨fs, hm⟩ := G.at12
  have hx : ¬ rPx (nI 0) (nI 5) = true := by decide
  have k := ak_go hnc (fun _ => nm_ex e_IA e_IA e_IA) (as_hp hm (Or.inl (if_neg (by rw [lq_f hx]; exact n1x))) (fa_hasPrefix hp G hB (nI 0) (nI 5)))
  refine gC_post k (fun v h' z => ⟨z.1.trans (congrArg (fun y => some (Value.int y)) ?_), z.2⟩) (fun _ _ z => z)
  exact (rv_1 hx).trans xc_IA
theorem aq_17x (hp : gPxs Γ) (hnc : gPnc Γ) (H : lP bm Γ de h m N c t nx) : gC Γ M_L_ask [.ref m, .int (nI 17), .int (nI 6), .int (nI 0)] h 32 1 6 (fun v h' => v = some (.int (-2002)) ∧ h' = h) (fun _ _ => False) := by
  obtain ⟨V, F, B, G, hB, rfl, I, hn, hbm⟩ := H
  have ec := I.c_eq
  have et := I.t_eq
  subst ec
  subst et
  obtain ⟨fs, hm⟩ := G.at12
  have k := ak_go hnc (fun _ => nm_ex e_IO e_IO e_IO) (as_codesOf hm (nI 6) (nI 0) (fa_codesOf hp G hB (nI 6)).go)
  refine gC_post k (fun v h' z => ⟨z.1.trans (congrArg (fun y => some (Value.int y)) ?_), z.2⟩) (fun _ _ z => z)
  exact (rv_1 (fun z => absurd z.2 (by decide))).trans xc_IO
theorem bg_in (I : rIV N c t nx) {r b : Nat} (hr : r < 6) (hb : b < 3) : (nI 0 ≤ nI b ∧ nI b ≤ N (8 + 3 * rIx (nI r) + 2) - nI 1) ↔ b < rg N r := by
  obtain ⟨g1, g2⟩ := I.g3 (a := r) (by omega)
  rw [rIx_nI (by omega), g2]
  constructor
  · intro z
    obtain ⟨k, hk, e⟩ := in_rg (by omega) z
    have := (nI_eq (by omega) (by omega)).mp e
    omega
  · intro z
    exact in_rgi (by omega) z
theorem aq_8 (hp : gPxs Γ) (hnc : gPnc Γ) (H : lP bm Γ de h m N c t nx) {r b : Nat} (hr : r < 6) (hb : b < 3) : gC Γ M_L_ask [.ref m, .int (nI 8), .int (nI r), .int (nI b)] h 32 1 6 (fun v h' => v = some (.int (if b < rg N r then rWt N (nI r) (nI b) c else (-2004))) ∧ h' = h) (fun _ _ => False) := by
  obtain ⟨V, F, B, G, hB, rfl, I, hn, hbm⟩ := H
  have ec := I.c_eq
  have et := I.t_eq
  subst ec
  subst et
  obtain ⟨fs, hm⟩ := G.at12
  have k := ak_go hnc (fun _ => nm_ex e_IO e_NS e_NS) (as_bagWeight hm (nI r) (nI b) (fa_bagWeight hp G hB (nI r) (nI b)).go)
  refine gC_post k (fun v h' z => ⟨z.1.trans (congrArg (fun y => some (Value.int y)) ?_), z.2⟩) (fun _ _ z => z)
  unfold tBg
  by_cases y : b < rg (F 0) r
  · rw [if_pos y]
    exact (if_pos (lq_t2 (r_n hr) ((bg_in I hr hb).mpr y))).trans (if_pos (lq_t2 (r_n hr) ((bg_in I hr hb).mpr y)))
  · rw [if_neg y]
    exact (rv_2 (r_n hr) (fun z => y ((bg_in I hr hb).mp z))).trans xc_NS
theorem aq_9 (hp : gPxs Γ) (hnc : gPnc Γ) (H : lP bm Γ de h m N c t nx) {r b : Nat} (hr : r < 6) (hb : b < 3) : gC Γ M_L_ask [.ref m, .int (nI 9), .int (nI r), .int (nI b)] h 32 1 6 (fun v h' => v = some (.int (if b < rg N r then rLn N (nI r) (nI b) c else (-2004))) ∧ h' = h) (fun _ _ => False) := by
  obtain ⟨V, F, B, G, hB, rfl, I, hn, hbm⟩ := H
  have ec := I.c_eq
  have et := I.t_eq
  subst ec
  subst et
  obtain ⟨fs, hm⟩ := G.at12
  have k := ak_go hnc (fun _ => nm_ex e_IO e_NS e_NS) (as_lettersInBag hm (nI r) (nI b) (fa_lettersInBag hp G hB (nI r) (nI b)).go)
  refine gC_post k (fun v h' z => ⟨z.1.trans (congrArg (fun y => some (Value.int y)) ?_), z.2⟩) (fun _ _ z => z)
  unfold tBg
  by_cases y : b < rg (F 0) r
  · rw [if_pos y]
    exact (if_pos (lq_t2 (r_n hr) ((bg_in I hr hb).mpr y))).trans (if_pos (lq_t2 (r_n hr) ((bg_in I hr hb).mpr y)))
  · rw [if_neg y]
    exact (rv_2 (r_n hr) (fun z => y ((bg_in I hr hb).mp z))).trans xc_NS
theorem aq_8x (hp : gPxs Γ) (hnc : gPnc Γ) (H : lP bm Γ de h m N c t nx) : gC Γ M_L_ask [.ref m, .int (nI 8), .int (nI 6), .int (nI 0)] h 32 1 6 (fun v h' => v = some (.int (-2002)) ∧ h' = h) (fun _ _ => False) := by
  obtain ⟨V, F, B, G, hB, rfl, I, hn, hbm⟩ := H
  have ec := I.c_eq
  have et := I.t_eq
  subst ec
  subst et
  obtain ⟨fs, hm⟩ := G.at12
  have k := ak_go hnc (fun _ => nm_ex e_IO e_NS e_NS) (as_bagWeight hm (nI 6) (nI 0) (fa_bagWeight hp G hB (nI 6) (nI 0)).go)
  refine gC_post k (fun v h' z => ⟨z.1.trans (congrArg (fun y => some (Value.int y)) ?_), z.2⟩) (fun _ _ z => z)
  unfold tBg
  exact (rv_1 (fun z => absurd z.2 (by decide))).trans xc_IO
theorem aq_10 (hp : gPxs Γ) (hnc : gPnc Γ) (H : lP bm Γ de h m N c t nx) {p : Nat} (hpc : p < c) : gC Γ M_L_ask [.ref m, .int (nI 10), .int (N (62 + 7 * p)), .int (nI 0)] h 32 1 6 (fun v h' => v = some (.int (if N (62 + 7 * p + 5) = -1 ∨ rWr N p t = true then (-2005) else rHt N (N (62 + 7 * p + 5)))) ∧ h' = h) (fun _ _ => False) := by
  obtain ⟨V, F, B, G, hB, rfl, I, hn, hbm⟩ := H
  have ec := I.c_eq
  have et := I.t_eq
  subst ec
  subst et
  obtain ⟨fs, hm⟩ := G.at12
  have k := ak_go hnc (fun _ => nm_ex e_NS e_IS e_IS) (as_hoursToDelivery hm (F 0 (62 + 7 * p)) (nI 0) (fa_hoursToDelivery hp G hB (F 0 (62 + 7 * p))).go)
  refine gC_post k (fun v h' z => ⟨z.1.trans (congrArg (fun y => some (Value.int y)) ?_), z.2⟩) (fun _ _ z => z)
  by_cases h5 : F 0 (62 + 7 * p + 5) = -1
  · rw [if_pos (Or.inl h5), tHf_2 (I.pl1 hpc) (I.ix hpc) (Or.inl h5), if_neg n2x, nm2, xc_IS]
  · cases hr9 : rWr (F 0) p (rtt (F 0)) with
    | true => rw [if_pos (Or.inr rfl), tHf_2 (I.pl1 hpc) (I.ix hpc) (Or.inr hr9), if_neg n2x, nm2, xc_IS]
    | false =>
      have e0 := tHf_0 (I.pl1 hpc) (I.ix hpc) h5 hr9
      refine (if_pos e0).trans ((if_pos e0).trans ?_)
      rw [I.ix hpc]
      exact (if_neg (fun z : F 0 (62 + 7 * p + 5) = -1 ∨ false = true => z.elim h5 (fun y => by cases y))).symm
theorem aq_11 (hd : gDi Γ) (hpl : gPall Γ de mi) (hp : gPxs Γ) (hnc : gPnc Γ) (H : lP bm Γ de h m N c t nx) {p : Nat} (hpc : p < c) : gC Γ M_L_ask [.ref m, .int (nI 11), .int (N (62 + 7 * p)), .int (nI 0)] h 32 62 2230 (fun v h' => v = some (.int (if N (62 + 7 * p + 5) = -1 ∨ rWr N p t = true then (-2005) else rHt N (N (62 + 7 * p + 5)))) ∧ lP bm Γ de h' m N c t nx ∧ gAll h h') (fun _ _ => False) := by
  obtain ⟨V, F, B, G, hB, rfl, I, hn, hbm⟩ := H
  have ec := I.c_eq
  have et := I.t_eq
  subst ec
  subst et
  obtain ⟨fs, hm⟩ := G.at12
  have k := akC_go hnc (fun _ => nm_ex e_NS e_IS e_IS) (as_hoursToDeliveryByHours hm (F 0 (62 + 7 * p)) (nI 0) (fa_hoursToDeliveryByHours hd hpl hp G hB (F 0 (62 + 7 * p))).go)
  refine gC_post k (fun v h' z => ⟨z.1.trans (congrArg (fun y => some (Value.int y)) ?_), ⟨lP.of z.2.1 hB rfl I hn hbm, z.2.2⟩⟩) (fun _ _ z => z)
  by_cases h5 : F 0 (62 + 7 * p + 5) = -1
  · rw [if_pos (Or.inl h5), tHf_2 (I.pl1 hpc) (I.ix hpc) (Or.inl h5), if_neg n2x, nm2, xc_IS]
  · cases hr9 : rWr (F 0) p (rtt (F 0)) with
    | true => rw [if_pos (Or.inr rfl), tHf_2 (I.pl1 hpc) (I.ix hpc) (Or.inr hr9), if_neg n2x, nm2, xc_IS]
    | false =>
      have e0 := tHf_0 (I.pl1 hpc) (I.ix hpc) h5 hr9
      refine (if_pos e0).trans ((if_pos e0).trans ?_)
      rw [I.ix hpc]
      exact (if_neg (fun z : F 0 (62 + 7 * p + 5) = -1 ∨ false = true => z.elim h5 (fun y => by cases y))).symm
theorem aq_15 (hp : gPxs Γ) (hnc : gPnc Γ) (H : lP bm Γ de h m N c t nx) {r : Nat} (hr : r < 6) : gC Γ M_L_ask [.ref m, .int (nI 15), .int (nI r), .int (nI 0)] h 32 1 6 (fun v h' => v = some (.int (if rg N r = 0 then (-2004) else rFb N (nI r) c (rg N r - 1))) ∧ h' = h) (fun _ _ => False) := by
  obtain ⟨V, F, B, G, hB, rfl, I, hn, hbm⟩ := H
  have ec := I.c_eq
  have et := I.t_eq
  subst ec
  subst et
  obtain ⟨fs, hm⟩ := G.at12
  have k := ak_go hnc (fun _ => nm_ex e_IO e_NS e_NS) (as_fullestBag hm (nI r) (nI 0) (fa_fullestBag hp G hB (nI r)).go)
  refine gC_post k (fun v h' z => ⟨z.1.trans (congrArg (fun y => some (Value.int y)) ?_), z.2⟩) (fun _ _ z => z)
  unfold tFb
  obtain ⟨g1, g2⟩ := I.g3 (a := r) (by omega)
  have e : (0 < F 0 (8 + 3 * rIx (nI r) + 2)) ↔ ¬ rg (F 0) r = 0 := by
    rw [rIx_nI (by omega), g2, ← z0, nI_ltI (by omega) (by omega)]
    omega
  by_cases y : rg (F 0) r = 0
  · rw [if_pos y]
    exact (rv_2 (r_n hr) (fun z => e.mp z y)).trans xc_NS
  · rw [if_neg y]
    refine (if_pos (lq_t2 (r_n hr) (e.mpr y))).trans ((if_pos (lq_t2 (r_n hr) (e.mpr y))).trans ?_)
    rw [I.op (by omega)]
theorem aq_15x (hp : gPxs Γ) (hnc : gPnc Γ) (H : lP bm Γ de h m N c t nx) : gC Γ M_L_ask [.ref m, .int (nI 15), .int (-1), .int (nI 0)] h 32 1 6 (fun v h' => v = some (.int (-2002)) ∧ h' = h) (fun _ _ => False) := by
  obtain ⟨V, F, B, G, hB, rfl, I, hn, hbm⟩ := H
  have ec := I.c_eq
  have et := I.t_eq
  subst ec
  subst et
  obtain ⟨fs, hm⟩ := G.at12
  have k := ak_go hnc (fun _ => nm_ex e_IO e_NS e_NS) (as_fullestBag hm (-1) (nI 0) (fa_fullestBag hp G hB (-1)).go)
  refine gC_post k (fun v h' z => ⟨z.1.trans (congrArg (fun y => some (Value.int y)) ?_), z.2⟩) (fun _ _ z => z)
  unfold tFb
  exact (rv_1 (fun z => absurd z.1 (by decide))).trans xc_IO
theorem aq_4x (hd : gDi Γ) (hpl : gPall Γ de mi) (hp : gPxs Γ) (hnc : gPnc Γ) (H : lP bm Γ de h m N c t nx) : gC Γ M_L_ask [.ref m, .int (nI 4), .int (nI (tyL N c).length), .int (nI 0)] h 32 72 2569 (fun v h' => v = some (.int (-2004)) ∧ lP bm Γ de h' m N c t nx) (fun _ _ => False) := by
  obtain ⟨V, F, B, G, hB, rfl, I, hn, hbm⟩ := H
  have ec := I.c_eq
  have et := I.t_eq
  subst ec
  subst et
  obtain ⟨fs, hm⟩ := G.at12
  have k := akC_go hnc (fun _ => nm_ex e_NS e_NS e_NS) (as_trayAt hm (nI (tyL (F 0) (rc (F 0))).length) (nI 0) (fa_trayAt hd hpl hp G hB (nI (tyL (F 0) (rc (F 0))).length)).go)
  refine gC_post k (fun v h' z => ⟨z.1.trans (congrArg (fun y => some (Value.int y)) ?_), lP.of z.2.1 hB rfl I hn hbm⟩) (fun _ _ z => z)
  refine (rv_1 (fun z => z ?_)).trans xc_NS
  have hl := tyL_len I
  rw [rTr_L I]
  exact tq_out (Or.inr rfl) (by omega)
theorem aq_4y (hd : gDi Γ) (hpl : gPall Γ de mi) (hp : gPxs Γ) (hnc : gPnc Γ) (H : lP bm Γ de h m N c t nx) : gC Γ M_L_ask [.ref m, .int (nI 4), .int (-1), .int (nI 0)] h 32 72 2569 (fun v h' => v = some (.int (-2004)) ∧ lP bm Γ de h' m N c t nx) (fun _ _ => False) := by
  obtain ⟨V, F, B, G, hB, rfl, I, hn, hbm⟩ := H
  have ec := I.c_eq
  have et := I.t_eq
  subst ec
  subst et
  obtain ⟨fs, hm⟩ := G.at12
  have k := akC_go hnc (fun _ => nm_ex e_NS e_NS e_NS) (as_trayAt hm (-1) (nI 0) (fa_trayAt hd hpl hp G hB (-1)).go)
  refine gC_post k (fun v h' z => ⟨z.1.trans (congrArg (fun y => some (Value.int y)) ?_), lP.of z.2.1 hB rfl I hn hbm⟩) (fun _ _ z => z)
  refine (rv_1 (fun z => z ?_)).trans xc_NS
  have hl := tyL_len I
  rw [rTr_L I]
  exact tq_out (Or.inl (by decide)) (by omega)
theorem lr_trayAt (hd : gDi Γ) (hpl : gPall Γ de mi) (hp : gPxs Γ) (H : lP bm Γ de h m N c t nx) {k i : Nat} (hk : (tyL N c)[k]? = some i) : gC Γ M_X9_trayAt [.ref m, .int (nI k)] h 30 72 2569 (fun v h' => v = some (.int (N (62 + 7 * i))) ∧ lP bm Γ de h' m N c t nx) (fun _ _ => False) := by
  obtain ⟨V, F, B, G, hB, rfl, I, hn, hbm⟩ := H
  have ec := I.c_eq
  have et := I.t_eq
  subst ec
  subst et
  have hl := tyL_len I
  have hic := (tyL_m (List.mem_of_getElem? hk)).1
  obtain ⟨i9, cd, w, pr, q, ei, hi9, -⟩ := I.let9 hic
  have e1 : (rTr (F 0) (nI k) (rc (F 0)) (2 * rc (F 0))).2 = F 0 (62 + 7 * i) := by rw [rTr_L I, tq_in hk (by omega)]
  have e0 : rT (bI (¬ (rTr (F 0) (nI k) (rc (F 0)) (2 * (rc (F 0)))).2 = -1)) (nI 1) (nI 1) = 0 := lq_t (by rw [e1, ei]; exact nI_nm1 (by omega))
  refine gC_post (fa_trayAt hd hpl hp G hB (nI k)) (fun v h' z => ⟨?_, lP.of z.2.2.1 hB rfl I hn hbm⟩) (fun E h' z => z.1 e0)
  rw [z.2.1, if_pos e0, e1]
theorem lr_traySize (hd : gDi Γ) (hpl : gPall Γ de mi) (H : lP bm Γ de h m N c t nx) : gC Γ M_X9_traySize [.ref m] h 30 72 2563 (fun v h' => v = some (.int (rLn N (-1) (-1) c)) ∧ lP bm Γ de h' m N c t nx) (fun _ _ => False) := by
  obtain ⟨V, F, B, G, hB, rfl, I, hn, hbm⟩ := H
  have ec := I.c_eq
  subst ec
  exact gC_post (fa_traySize hd hpl G hB) (fun v h' z => ⟨z.1, lP.of z.2.1 hB rfl I hn hbm⟩) (fun _ _ z => z)
theorem lr_isConsistent (H : lP bm Γ de h m N c t nx) : gC Γ M_X9_isConsistent [.ref m] h 30 0 0 (fun v h' => v = some (.int (nI 1)) ∧ lP bm Γ de h' m N c t nx) (fun _ _ => False) := by
  obtain ⟨V, F, B, G, hB, rfl, I, hn, hbm⟩ := H
  exact gC_post (fa_isConsistent G hB) (fun v h' z => ⟨z.1, lP.of z.2.1 hB rfl I hn hbm⟩) (fun _ _ z => z)
theorem tyL_n (I : rIV N c t nx) (hn : nx ≤ 9000) : rLn N (-1) (-1) c = nI (tyL N c).length := by
  unfold tyL
  rw [List.length_append]
  exact rLn_T (I.lv (by omega)) I.hc c (Nat.le_refl _)
end GLd
