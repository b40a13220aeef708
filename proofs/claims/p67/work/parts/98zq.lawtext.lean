/-! THE LAW: the text of a letter, made by the law -/
section GLj
variable {Γ : gE} {bm de mi : Nat} {h : gHp} {m : Nat} {N : Nat → Int32} {c t nx : Nat}
section Ru9
variable {M : gM} {d mc ms : Nat} {Z : Option Value → gHp → Prop} {ZX : String → gHp → Prop} {rc rs pc : Nat} {L : List (Option Value)} {st : List Value}
theorem g_ldcw {idx sa : Nat} {tx : String} (hstr : gPs Γ M.1.cls idx tx sa) (hd : decode M.2.1 pc = .ok (.ldc_w idx, 3)) (k : G Γ M d mc ms Z ZX rc rs (pc + 3) L (.ref sa :: st) h) : G Γ M d mc ms Z ZX rc rs pc L st h := by
  intro p e R s m args below meth c H locs cells slots ls C hd1 hd2 hd3 hd4 ha hl hc hs
  obtain ⟨hx, hb, hml, hown, hts, hr, hlocks, htb, hnm, hok, hK, hbs⟩ := id C
  intro T hT X
  obtain ⟨t, a1, b1⟩ := k p e R s m args below meth c H locs cells slots ls C hd1 hd2 hd3 hd4 ha hl hc hs T hT X
  exact ⟨t, X.ldcStringW hx hown (text := tx) (a := sa) (hstr s hK).1 (hstr s hK).2 (g := F0 m pc ls st) rfl (by rw [hb]; exact hd) t a1, b1⟩
end Ru9
/-- a builder that was made since h0 -/
def sbN (Γ : gE) (h0 : gHp) (a : Nat) (xs : List Nat) (hk : gHp) (K : Nat) : Prop := (∃ v m, gSB Γ hk a v m xs ∧ h0 a = none ∧ h0 v = none) ∧ gAll h0 hk ∧ xs.length ≤ K
theorem sbN.cell {h0 hk : gHp} {a K : Nat} {xs : List Nat} (I : sbN Γ h0 a xs hk K) : ∃ fs, hk a = some (gJ 1 fs) := by
  obtain ⟨⟨v, m, ⟨_, _, z, -⟩, -⟩, -⟩ := I
  exact ⟨_, z⟩
theorem sbN_0 {a : Nat} {e : va_E} (ha : h a = none) {h5 : gHp} (z : ∃ v, gUp h a e v = none ∧ gSB Γ h5 a v 16 [] ∧ gKeep (fun z => z = a) (gUp h a e) h5) : sbN Γ h a [] h5 0 := by
  obtain ⟨v, hv, H, k⟩ := z
  exact ⟨⟨v, 16, H, ha, gAll_no (gAll_up ha) hv⟩, gAll_tr (gAll_up ha) k (fun q y => by rw [y]; exact ha), Nat.le_refl _⟩
theorem gSB.all {h2 : gHp} {a v m : Nat} {xs : List Nat} (H : gSB Γ h a v m xs) (k : gAll h h2) : gSB Γ h2 a v m xs := by
  obtain ⟨ml, f, a1, a2, a3⟩ := H
  exact ⟨ml, f, k _ _ (fun z => z) a1, k _ _ (fun z => z) a2, a3⟩
theorem sbN_op {M : gM} {av : List Value} {d n : Nat} {h0 hk : gHp} {a v K : Nat} {xs ws : List Nat} (e1 : h0 a = none) (e2 : h0 v = none) (kA : gAll h0 hk) (hK : xs.length ≤ K) (hn : ws.length ≤ n) (cc : gC Γ M av hk d 1 34 (sbZ Γ hk a v (some (.ref a)) (xs ++ ws)) (fun _ _ => False)) : gC Γ M av hk d 1 34 (fun r9 h' => r9 = some (.ref a) ∧ sbN Γ h0 a (xs ++ ws) h' (K + n)) (fun _ _ => False) := by
  refine gC_post cc (fun r h' z => ?_) (fun _ _ z => z)
  obtain ⟨rfl, v2, m2, H2, hv2, k2, ex2⟩ := z
  refine ⟨rfl, ⟨v2, m2, H2, e1, ?_⟩, gAll_tr kA k2 (fun q y => y.elim (fun y => by rw [y]; exact e1) (fun y => by rw [y]; exact e2)), by rw [List.length_append]; omega⟩
  rcases hv2 with y | y
  · rw [y]; exact e2
  · exact gAll_no kA y
variable {d1 d10 : Nat} {vf : Value}
theorem sbN_S (hp : gPsb Γ d1 d10 vf) {h0 hk : gHp} {a K s n : Nat} {xs ws : List Nat} (hs : gCs Γ s ws) (I : sbN Γ h0 a xs hk K) (hn : ws.length ≤ n) (hl : K + n ≤ 34) : gC Γ M_J4_append_15ec4 [.ref a, .ref s] hk 5 1 34 (fun r9 h' => r9 = some (.ref a) ∧ sbN Γ h0 a (xs ++ ws) h' (K + n)) (fun _ _ => False) := by
  obtain ⟨⟨v, m, H, e1, e2⟩, kA, hK⟩ := I
  exact sbN_op e1 e2 kA hK hn (sb_appS hp hs H (by omega))
theorem sbN_I (hp : gPsb Γ d1 d10 vf) {h0 hk : gHp} {a K n T : Nat} {xs : List Nat} (I : sbN Γ h0 a xs hk K) (hn : n < 100000) (hT : tpd n ≤ T) (hl : K + (T + 1) ≤ 34) : gC Γ M_J4_append_bf812 [.ref a, .int (nI n)] hk 5 1 34 (fun r9 h' => r9 = some (.ref a) ∧ sbN Γ h0 a (xs ++ dgt n) h' (K + (T + 1))) (fun _ _ => False) := by
  obtain ⟨⟨v, m, H, e1, e2⟩, kA, hK⟩ := I
  exact sbN_op e1 e2 kA hK (by rw [dgt_len]; omega) (sb_appI hp H hn (by omega))
theorem sbN_T (hp : gPsb Γ d1 d10 vf) {h0 hk h2 : gHp} {a K s r n : Nat} {xs ws : List Nat} (I : sbN Γ h0 a xs hk K) (k : gAll hk h2) (hs : gSX Γ h2 s r ws) (hr : hk r = none) (hn : ws.length ≤ n) (hl : K + n ≤ 34) : gC Γ M_J4_append_15ec4 [.ref a, .ref s] h2 5 1 34 (fun r9 h' => r9 = some (.ref a) ∧ sbN Γ h0 a (xs ++ ws) h' (K + n)) (fun _ _ => False) := by
  obtain ⟨⟨v, m, H, e1, e2⟩, kA, hK⟩ := I
  have nrv : r ≠ v := fun z => by
    obtain ⟨_, _, _, y, -⟩ := H
    rw [← z, hr] at y
    cases y
  exact sbN_op e1 e2 (gAll_tr kA k (fun _ y => y.elim)) hK hn (sx_appS hp (H.all k) hs nrv (by omega))
theorem sbN_Z (hp : gPsb Γ d1 d10 vf) {h0 hk : gHp} {a K : Nat} {xs : List Nat} (I : sbN Γ h0 a xs hk K) (h8 : ∀ x ∈ xs, x < 128) : gC Γ M_J4_toString_0e30d [.ref a] hk 6 2 38 (fun v9 h' => ∃ s r, v9 = some (.ref s) ∧ gSX Γ h' s r xs ∧ h0 s = none ∧ h0 r = none ∧ gAll h0 h' ∧ gAll hk h') (fun _ _ => False) := by
  obtain ⟨⟨v, m, H, e1, e2⟩, kA, hK⟩ := I
  refine gC_post (sb_toString hp H h8) (fun r h' z => ?_) (fun _ _ z => z)
  obtain ⟨s, r, rfl, hs, q1, q2, k⟩ := z
  exact ⟨s, r, rfl, hs, gAll_no kA q1, gAll_no kA q2, gAll_tr kA k (fun _ y => y.elim), k⟩
theorem lP.all (hd : gDi Γ) {h' : gHp} (H : lP bm Γ de h m N c t nx) (k : gAll h h') : lP bm Γ de h' m N c t nx := by
  obtain ⟨V, F, B, G, hB, e9, I, hn, hbm⟩ := H
  exact ⟨V, F, B, G.fr hd (gFr.all (K := fun _ => False) k) (fun _ _ y => y), hB, e9, I, hn, hbm⟩
/-- the texts of the law's pool -/
def lwS : List (Nat × String × List Nat) := [(234, "P", [80]), (236, "S", [83]), (245, ":", [58]), (247, " ", [32]), (249, "g", [103]), (251, "", []), (253, " r", [32, 114]), (255, ".", [46]), (261, " *", [32, 42])]
def gPlw (Γ : gE) : Prop := ∀ x ∈ lwS, ∃ s, gPs Γ RL x.1 x.2.1 s ∧ gCs Γ s x.2.2
theorem so_any (hp : gPxs Γ) (H : lP bm Γ de h m N c t nx) {fs : List Value} (hm : h m = some (gJ 12 fs)) {p : Nat} (hpc : p < c) : ∃ x, pC Γ M_L_sorted [.ref m, .int (N (62 + 7 * p))] h 36 (some (.int x)) ∧ (rGo N p (rLR N p t) c (rOp N (rLR N p t)) = true ↔ 0 ≤ x) := by
  have I := H.iv.1
  rcases lr_cases I p with e | ⟨r, hr, e⟩
  · refine ⟨_, la_sorted0 hp H hm hpc e, ?_⟩
    rw [e]
    exact ⟨fun z => absurd z go_no, fun z => absurd z (by decide)⟩
  · refine ⟨_, la_sorted1 hp H hm hpc hr e, ?_⟩
    rw [e]
    exact go_iff I hr
/-- the line shows a text -/
def lF (bm : Nat) (Γ : gE) (de : Nat) (h : gHp) (m : Nat) (N : Nat → Int32) (c t nx : Nat) (ws : List Nat) : Prop := ∃ V F B, gMO Γ de h m V F B ∧ B ≤ 9000 ∧ F 0 = N ∧ rIV N c t nx ∧ nx ≤ 9000 ∧ B ≤ bm ∧ V 12 = nI ws.length ∧ ∀ i x, ws[i]? = some x → F 11 i = nI x ∧ x < 128
theorem lF.lp {ws : List Nat} (H : lF bm Γ de h m N c t nx ws) : lP bm Γ de h m N c t nx := by
  obtain ⟨V, F, B, a1, a2, a3, a4, a5, a6, -⟩ := H
  exact ⟨V, F, B, a1, a2, a3, a4, a5, a6⟩
theorem lr_lineChar (hps : gPsb Γ d1 d10 vf) (hp : gPxs Γ) {ws : List Nat} (H : lF bm Γ de h m N c t nx ws) (hl : ws.length ≤ 60) {k x : Nat} (hk : ws[k]? = some x) : pC Γ M_X9_lineChar [.ref m, .int (nI k)] h 30 (some (.int (nI x))) := by
  obtain ⟨V, F, B, G, hB, e9, I, hn, hbm, h12, hrow⟩ := H
  have hkl := (List.getElem?_eq_some_iff.mp hk).1
  have e1 : nI ws.length - nI 1 = nI (ws.length - 1) := nI_subN (by omega)
  have hin : nI 0 ≤ nI k ∧ nI k ≤ nI ws.length - nI 1 := ⟨nI_le (Nat.zero_le _) (by omega), by rw [e1]; exact nI_le (by omega) (by omega)⟩
  have e0 := lq_t hin
  have z := (fa_lineChar hps hp G (n := ws.length) (lx := fun i => (ws[i]?).getD 0) h12 hl (fun i hi => by
    obtain ⟨y, hy⟩ : ∃ z, ws[i]? = some z := ⟨_, List.getElem?_eq_getElem hi⟩
    show F 11 i = nI ((ws[i]?).getD 0) ∧ (ws[i]?).getD 0 < 128
    rw [hy]
    exact hrow i y hy) (nI k)).1 e0
  rw [if_pos hin, nI_clamp (by omega), hk] at z
  exact z
theorem sx_len9 (hps : gPsb Γ d1 d10 vf) {s r : Nat} {ws : List Nat} (hs : gSX Γ h s r ws) : pC Γ M_J0_length_8abf5 [.ref s] h 1 (some (.int (nI ws.length))) := by
  obtain ⟨y1, y2, g, a1, a2, -⟩ := hs
  exact sx_len hps a1 a2
theorem sx_char9 (hps : gPsb Γ d1 d10 vf) {s r i x : Nat} {ws : List Nat} (hs : gSX Γ h s r ws) (hx : ws[i]? = some x) (hl : ws.length ≤ 1000) : pC Γ M_J0_charAt_5068e [.ref s, .int (nI i)] h 3 (some (.int (nI x))) := by
  obtain ⟨y1, y2, g, a1, a2, a3, a4, -⟩ := hs
  exact sx_charAt hps a1 a2 a3 a4 hx hl
theorem gSX.cell {s r : Nat} {ws : List Nat} (hs : gSX Γ h s r ws) : ∃ fs, h s = some (gJ 0 fs) := by
  obtain ⟨y1, y2, g, a1, -⟩ := hs
  exact ⟨_, a1⟩
theorem la_isLine (hps : gPsb Γ d1 d10 vf) (hp : gPxs Γ) {ws : List Nat} (H : lF bm Γ de h m N c t nx ws) (hl : ws.length ≤ 60) {s r : Nat} (hs : gSX Γ h s r ws) : pC Γ M_L_isLine [.ref m, .int (nI ws.length), .ref s] h 34 (some (.int (nI 1))) := by
  obtain ⟨fs, hm⟩ := H.lp.at12
  obtain ⟨gs, hs1⟩ := hs.cell
  have loop : ∀ n k, k + n = ws.length → pG Γ M_L_isLine 34 (some (.int (nI 1))) h 17 [some (.ref m), some (.int (nI ws.length)), some (.ref s), some (.int (nI 1)), some (.int (nI k))] [] := by
    intro n
    induction n with
    | zero =>
      intro k hk
      have ek : k = ws.length := by omega
      subst ek
      refine g_blk [(.iload 4, .null), (.aload_n 2, .null)] (Nat.le_of_ble_eq_true rfl) (by decide +kernel) ?_
      refine gx_iload_4 (gx_aload_n_2 ((gx_nil ?_)))
      refine g_pV kL_219 (sx_len9 hps hs) (by decide +kernel) rfl rfl hs1 rfl (Nat.le_of_ble_eq_true rfl) (Nat.le_of_ble_eq_true rfl) (Nat.le_of_ble_eq_true rfl) rfl ?_
      simp only [Option.toList_some, Option.toList_none, List.cons_append, List.nil_append]
      refine g_icmp_ge (off := 34) (tgt := 57) (by decide +kernel) (by decide) (fun c23 => ?_) (fun c23 => ?_)
      · try simp only [bI_0, Decidable.not_not] at c23
        refine g_blk [(.iload_n 3, .null)] (Nat.le_of_ble_eq_true rfl) (by decide +kernel) ?_
        refine gx_iload_n_3 ((gx_nil ?_))
        refine g_end (some (.int _)) rfl ⟨by decide +kernel, _, rfl, (by first | rfl | exact bI_nar _)⟩ ?_
        exact ⟨rfl, rfl⟩
      · try simp only [bI_0, Decidable.not_not] at c23
        exact absurd (Int32.le_refl _) c23
    | succ n ih =>
      intro k hk
      obtain ⟨x, hx⟩ : ∃ z, ws[k]? = some z := ⟨_, List.getElem?_eq_getElem (by omega)⟩
      refine g_blk [(.iload 4, .null), (.aload_n 2, .null)] (Nat.le_of_ble_eq_true rfl) (by decide +kernel) ?_
      refine gx_iload_4 (gx_aload_n_2 ((gx_nil ?_)))
      refine g_pV kL_219 (sx_len9 hps hs) (by decide +kernel) rfl rfl hs1 rfl (Nat.le_of_ble_eq_true rfl) (Nat.le_of_ble_eq_true rfl) (Nat.le_of_ble_eq_true rfl) rfl ?_
      simp only [Option.toList_some, Option.toList_none, List.cons_append, List.nil_append]
      refine g_icmp_ge (off := 34) (tgt := 57) (by decide +kernel) (by decide) (fun c23 => ?_) (fun c23 => ?_)
      · try simp only [bI_0, Decidable.not_not] at c23
        exact absurd ((nI_leI (by omega) (by omega)).mp c23) (by omega)
      · try simp only [bI_0, Decidable.not_not] at c23
        refine g_blk [(.iload_n 3, .null)] (Nat.le_of_ble_eq_true rfl) (by decide +kernel) ?_
        refine gx_iload_n_3 ((gx_nil ?_))
        refine g_if_eq (off := 30) (tgt := 57) (by decide +kernel) (by decide) (fun c27 => ?_) (fun c27 => ?_)
        · exact absurd c27 (by decide)
        · try simp only [bI_0, Decidable.not_not] at c27
          refine g_blk [(.aload_n 0, .null), (.iload 4, .null)] (Nat.le_of_ble_eq_true rfl) (by decide +kernel) ?_
          refine gx_aload_n_0 (gx_iload_4 ((gx_nil ?_)))
          refine g_pV kL_224 (lr_lineChar hps hp H hl hx) (by decide +kernel) rfl rfl hm rfl (Nat.le_of_ble_eq_true rfl) (Nat.le_of_ble_eq_true rfl) (Nat.le_of_ble_eq_true rfl) rfl ?_
          simp only [Option.toList_some, Option.toList_none, List.cons_append, List.nil_append]
          refine g_blk [(.aload_n 2, .null), (.iload 4, .null)] (Nat.le_of_ble_eq_true rfl) (by decide +kernel) ?_
          refine gx_aload_n_2 (gx_iload_4 ((gx_nil ?_)))
          refine g_pV kL_228 (sx_char9 hps hs hx (by omega)) (by decide +kernel) rfl rfl hs1 rfl (Nat.le_of_ble_eq_true rfl) (Nat.le_of_ble_eq_true rfl) (Nat.le_of_ble_eq_true rfl) rfl ?_
          simp only [Option.toList_some, Option.toList_none, List.cons_append, List.nil_append]
          refine g_icmp_ne (off := 7) (tgt := 49) (by decide +kernel) (by decide) (fun c42 => ?_) (fun c42 => ?_)
          · try simp only [bI_0, Decidable.not_not] at c42
            exact absurd (by first | rfl | trivial) c42
          · try simp only [bI_0, Decidable.not_not] at c42
            refine g_blk [(.iconst 1, .int (nI 1)), (.goto 4, .retAddr 50), (.istore_n 3, .null), (.iinc 4 1, .int (nI 1)), (.goto (-37), .retAddr 17)] (Nat.le_of_ble_eq_true rfl) (by decide +kernel) ?_
            refine gx_iconst (gx_goto (gx_istore_n_3 rfl (gx_iinc_4 rfl (gx_goto ((gx_nil ?_))))))
            try simp only [nI_add, pk_mul, Nat.add_zero, Nat.zero_add, Nat.reduceAdd, Nat.reduceMul]
            exact ih (k + 1) (by omega)
  refine pC_of (by decide) rfl (Nat.le_of_ble_eq_true rfl) [some (.ref m), some (.int (nI ws.length)), some (.ref s), none, none] rfl ?_
  refine g_blk [(.iload_n 1, .null), (.aload_n 2, .null)] (Nat.le_of_ble_eq_true rfl) (by decide +kernel) ?_
  refine gx_iload_n_1 (gx_aload_n_2 ((gx_nil ?_)))
  refine g_pV kL_219 (sx_len9 hps hs) (by decide +kernel) rfl rfl hs1 rfl (Nat.le_of_ble_eq_true rfl) (Nat.le_of_ble_eq_true rfl) (Nat.le_of_ble_eq_true rfl) rfl ?_
  simp only [Option.toList_some, Option.toList_none, List.cons_append, List.nil_append]
  refine g_icmp_ne (off := 7) (tgt := 12) (by decide +kernel) (by decide) (fun c5 => ?_) (fun c5 => ?_)
  · try simp only [bI_0, Decidable.not_not] at c5
    exact absurd (by first | rfl | trivial) c5
  · try simp only [bI_0, Decidable.not_not] at c5
    refine g_blk [(.iconst 1, .int (nI 1)), (.goto 4, .retAddr 13), (.istore_n 3, .null), (.iconst 0, .int (nI 0)), (.istore 4, .null)] (Nat.le_of_ble_eq_true rfl) (by decide +kernel) ?_
    refine gx_iconst (gx_goto (gx_istore_n_3 rfl (gx_iconst (gx_istore_4 rfl ((gx_nil ?_))))))
    exact loop ws.length 0 (by omega)
/-- a letter, and what the law has noted of it -/
def lxF (N : Nat → Int32) (c t p i cd w pr q : Nat) (A : Option (Nat × Nat)) (at9 wr du : Int32) : Prop :=
  (p < c ∧ N (62 + 7 * p) = nI i ∧ i < 10000) ∧ (N (62 + 7 * p + 1) = nI cd ∧ cd < 10000) ∧ (N (62 + 7 * p + 2) = nI w ∧ w < 100) ∧ (N (62 + 7 * p + 3) = nI pr ∧ pr ≤ 1) ∧ (N (62 + 7 * p + 4) = nI q ∧ q < 3) ∧
  ((A = none ∧ N (62 + 7 * p + 5) = -1 ∧ at9 = (-2005)) ∨ ∃ a b, a < 6 ∧ b < 3 ∧ A = some (a, b) ∧ N (62 + 7 * p + 5) = nI a ∧ N (62 + 7 * p + 6) = nI b ∧ at9 = nI a) ∧
  wr = bI (rWr N p t = true) ∧ du = (if N (62 + 7 * p + 5) = -1 ∨ rWr N p t = true then (-2005) else rHt N (N (62 + 7 * p + 5)))
theorem lr_format {sr ss : Nat} (hps : gPsb Γ d1 d10 vf) (hpt : gPtx Γ sr ss) (H : lP bm Γ de h m N c t nx) {p i cd w pr q : Nat} {A : Option (Nat × Nat)} {at9 wr du : Int32} (X : lxF N c t p i cd w pr q A at9 wr du) : gC Γ M_X9_formatLetter [.ref m, .int (N (62 + 7 * p))] h 30 22 780 (fun v h' => v = some (.int (nI (fmt pr i cd w A q).length)) ∧ lF bm Γ de h' m N c t nx (fmt pr i cd w A q) ∧ gKeep (lnC h m) h h') (fun _ _ => False) := by
  obtain ⟨V, F, B, G, hB, rfl, I, hn, hbm⟩ := H
  have ec := I.c_eq
  have et := I.t_eq
  subst ec
  subst et
  obtain ⟨⟨x1, x2, x3⟩, ⟨x4, x5⟩, ⟨x6, x7⟩, ⟨x8, x9⟩, ⟨y1, y2⟩, y3, -⟩ := X
  refine gC_post (fa_formatLetter1 hps hpt G hB (F 0 (62 + 7 * p)) x1 (I.place x1) (show i < 100000 by omega) x2 x5 x4 x7 x6 x8 x9 y1 (show q < 10 by omega) (y3.imp (fun z => ⟨z.1, z.2.1⟩) (fun ⟨a, b, z1, z2, z3, z4, z5, _⟩ => ⟨a, b, by omega, by omega, z3, z4, z5⟩))) (fun v h' z => ?_) (fun _ _ z => absurd z0 z.1)
  obtain ⟨-, z1, ⟨z2, -⟩, z3⟩ := z
  refine ⟨z1, ⟨_, _, B, z2, hB, rfl, I, hn, hbm, rfl, fun j x hj => ⟨?_, fmt_128 x (List.mem_of_getElem? hj)⟩⟩, z3⟩
  have e := wr_row (L := F 11) (fmt pr i cd w A q) 0 j x hj
  rw [Nat.zero_add] at e
  exact e
theorem lnC_no (H : lP bm Γ de h m N c t nx) {h5 : gHp} (k : gAll h h5) {q : Nat} (hq : h q = none) : ¬ lnC h5 m q := by
  obtain ⟨V, F, B, G, -⟩ := H
  obtain ⟨o, svv, hl, tt, bu, sb, lv, lm, xs, hm, ⟨ml, f, e1, e2, -⟩, -⟩ := gMX.li G
  intro z
  obtain ⟨fs, sb9, gs, q1, q2, q3, q4⟩ := z
  have hm5 := k _ _ (fun y => y) hm
  rw [hm5] at q1
  cases q1
  cases q2
  have e5 := k _ _ (fun y => y) e1
  rw [e5] at q3
  cases q3
  rcases q4 with y | y
  · rw [y, e1] at hq; cases hq
  · cases y
    rw [e2] at hq; cases hq
theorem dgt_1 {d : Nat} (hd : d < 10) : dgt d = [48 + d] := by
  unfold dgt
  rw [tpd_9 hd]
  show [48 + d / 10 ^ 0 % 10] = _
  rw [Nat.pow_zero, Nat.div_one, Nat.mod_eq_of_lt hd]
theorem fmt_law {pr i cd w q : Nat} {A : Option (Nat × Nat)} (hcd : cd < 10000) : ((((((((((([] ++ [if pr = 1 then 80 else 83]) ++ dgt i) ++ [58]) ++ dgt (cd / 1000)) ++ dgt (cd / 100 % 10)) ++ dgt (cd / 10 % 10)) ++ dgt (cd % 10)) ++ [32]) ++ dgt w) ++ [103]) ++ fmA A) ++ fmQ q = fmt pr i cd w A q := by
  have e : dgu cd 3 = [48 + cd / 10 ^ 3 % 10, 48 + cd / 10 ^ 2 % 10, 48 + cd / 10 ^ 1 % 10, 48 + cd / 10 ^ 0 % 10] := rfl
  unfold fmt
  rw [e, dgt_1 (d := cd / 1000) (by omega), dgt_1 (d := cd / 100 % 10) (by omega), dgt_1 (d := cd / 10 % 10) (by omega), dgt_1 (d := cd % 10) (by omega), show cd / 10 ^ 3 % 10 = cd / 1000 by rw [show 10 ^ 3 = 1000 from rfl]; omega, show 10 ^ 2 = 100 from rfl, show 10 ^ 1 = 10 from rfl, Nat.pow_zero, Nat.div_one]
  simp [List.append_assoc]
theorem fmt_len {pr i cd w q : Nat} {A : Option (Nat × Nat)} (hi : i < 10000) (hw : w < 100) (hq : q < 3) (hA : ∀ a b, A = some (a, b) → a < 6 ∧ b < 3) : (fmt pr i cd w A q).length ≤ 34 := by
  have t1 := tpd_c i
  have t2 := tpd_c w
  have l1 : (dgu cd 3).length = 4 := rfl
  have l2 : (fmA A).length ≤ 5 := by
    cases A with
    | none => exact Nat.zero_le _
    | some x =>
      obtain ⟨a, b⟩ := x
      obtain ⟨ha, hb⟩ := hA a b rfl
      show ([32] ++ [114] ++ dgt a ++ [46] ++ dgt b).length ≤ 5
      rw [dgt_1 (by omega), dgt_1 (by omega)]
      exact Nat.le_refl _
  have l3 : (fmQ q).length ≤ 3 := by
    unfold fmQ
    split
    · exact Nat.zero_le _
    · rw [dgt_1 (by omega)]
      exact Nat.le_refl _
  unfold fmt
  simp only [List.length_append, List.length_cons, List.length_nil, dgt_len, l1]
  omega
end GLj
