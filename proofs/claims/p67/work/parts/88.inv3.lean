/-! ... THE PUTS, THE HOURS -/
section GIv3
variable {N : Nat → Int32} {c t nx : Nat}
theorem lqS_zero {nx : Nat} {g : Nat → Nat} {a b : Nat} (ha : a ≤ 5) (hb : b ≤ 3) (hg : ∀ a, a ≤ 5 → g a ≤ 3) (hge : g a ≤ b) : ∀ {l : List lqT}, (∀ x ∈ l, lqH nx g x) → lqS (nI a) (nI b) l = 0
  | [], _ => rfl
  | x :: l, h => by
    rw [lqS_cons, lqS_zero ha hb hg hge (fun y hy => h y (List.mem_cons_of_mem _ hy)), Nat.add_zero]
    obtain ⟨m, cd, w, pr, q, e1, h1, e2, h2, e3, h3, h3', e4, h4, e5, h5, h6⟩ := h x List.mem_cons_self
    unfold lqW
    refine if_neg (fun z => ?_)
    rcases h6 with z6 | ⟨a', b', ha', hb', ea, eb⟩
    · exact nI_nm1 (n := a) (by omega) (by rw [← z.1, z6])
    · have e1 := (nI_eq (by omega) (by omega)).mp (ea.symm.trans z.1)
      subst e1
      have := hg a' ha
      rcases z.2 with y | y
      · exact nI_nm1 (n := b) (by omega) y
      · have e2 := (nI_eq (by omega) (by omega)).mp (eb.symm.trans y)
        omega
/-- the bag that takes a letter has room for it -/
theorem rIV.bag (h : rIV N c t nx) (hn : nx ≤ 100000) {a w : Nat} (ha : a ≤ 5) (hw : w ≤ 50) (hb : ¬ rBag N (nI a) (nI w) c (rg N a) = -1) : ∃ b, b < 3 ∧ b ≤ rg N a ∧ rBag N (nI a) (nI w) c (rg N a) = nI b ∧ lqS (nI a) (nI b) (lqs N c) + w ≤ 150 := by
  have hg := (h.g3 ha).1
  cases hf : rFst (rFits N (nI a) (nI w) c) (rg N a) with
  | some i =>
    obtain ⟨h1, h2⟩ := rFst_p hf
    refine ⟨i, by omega, by omega, by unfold rBag; rw [hf], ?_⟩
    have h3 := of_decide_eq_true h2
    have := h.li.wt a ha i (by omega)
    rw [rWt_S (h.lv hn), nI_add, nI_leI (by omega) (by omega)] at h3
    exact h3
  | none =>
    unfold rBag at hb
    rw [hf] at hb
    by_cases y : rg N a < 3
    · refine ⟨rg N a, y, Nat.le_refl _, by unfold rBag; rw [hf]; exact if_pos y, ?_⟩
      rw [lqS_zero ha (by omega) (fun a ha => (h.g3 ha).1) (Nat.le_refl _) h.li.ok]
      omega
    · exact absurd (if_neg y) hb
theorem rIV.into (h : rIV N c t nx) (hn : nx ≤ 100000) {k : Nat} {rt : Int32} (hk : k < c) (hg : rGo N k rt c (rOp N rt) = true) : rIV (rInto N k rt c (rOp N rt)) c t nx ∧ ∃ b, b < 3 ∧ rBag N rt (N (62 + 7 * k + 2)) c (rOp N rt) = nI b := by
  have ht := h.ht
  obtain ⟨g1, g2, g3, g4⟩ := of_decide_eq_true hg
  obtain ⟨a, ha, ea⟩ : ∃ a, a ≤ 5 ∧ rIx rt = a := ⟨_, rIx_le rt, rfl⟩
  have er : rt = nI a := by rw [← ea]; exact rIx_eq g2
  subst er
  have eop : rOp N (nI a) = rg N a := by unfold rOp rg; rw [ea]
  obtain ⟨m, cd, w, pr, q, e1, h1, e2, h2, e3, h3, h3', e4, h4, e5, h5, h6⟩ := h.li.ok _ (List.mem_of_getElem? (lqs_get hk))
  replace e3 : N (62 + 7 * k + 2) = nI w := e3
  rw [eop, e3] at g4
  obtain ⟨b, hb, hbg, eb, hw⟩ := h.bag hn ha h3' g4
  have hg3 := h.g3 ha
  rw [eop, e3]
  refine ⟨?_, b, hb, eb⟩
  have kk : ∀ q, q ≠ 62 + 7 * k + 5 → q ≠ 62 + 7 * k + 6 → q ≠ 8 + 3 * a + 2 → rInto N k (nI a) c (rg N a) q = N q := fun q q1 q2 q3 => rInto_keep q1 q2 (by rw [ea]; exact q3)
  have k2 : rInto N k (nI a) c (rg N a) (8 + 3 * a + 2) = nI (max (rg N a) (b + 1)) := by
    unfold rInto
    rw [ea, pk_us, hg3.2, e3, eb, nI_add, rMax_nI (by omega) (by omega)]
  have el : lqs (rInto N k (nI a) c (rg N a)) c = (lqs N c).set k (N (62 + 7 * k), N (62 + 7 * k + 1), N (62 + 7 * k + 2), N (62 + 7 * k + 3), N (62 + 7 * k + 4), nI a, nI b) := by
    refine lqs_set hk ?_ (fun q q1 q2 => kk q (by omega) (by omega) (by omega))
    unfold lqN
    rw [kk (62 + 7 * k) (by omega) (by omega) (by omega), kk (62 + 7 * k + 1) (by omega) (by omega) (by omega), kk (62 + 7 * k + 2) (by omega) (by omega) (by omega), kk (62 + 7 * k + 3) (by omega) (by omega) (by omega), kk (62 + 7 * k + 4) (by omega) (by omega) (by omega)]
    unfold rInto
    rw [ea, pk_un (by omega), pk_un (by omega), pk_us, pk_un (by omega), pk_us, e3, eb]
  refine ⟨⟨h.hc, by rw [kk 3 (by omega) (by omega) (by omega)]; exact h.h3⟩, ⟨ht, by rw [kk 4 (by omega) (by omega) (by omega)]; exact h.h4⟩, by rw [kk 0 (by omega) (by omega) (by omega)]; exact h.hh, ⟨by rw [kk 2 (by omega) (by omega) (by omega)]; exact h.n2, by rw [kk 5 (by omega) (by omega) (by omega), kk 6 (by omega) (by omega) (by omega)]; exact h.sum⟩, fun r hr => ?_, rUp_cg ht (fun q q1 q2 => (kk q (by omega) (by omega) (by omega)).symm) h.up, rPv_cg ht (fun q q1 q2 => (kk q (by omega) (by omega) (by omega)).symm) h.pv, ?_⟩
  · obtain ⟨x, y, g, hx, hy, hg, ex, ey, eg⟩ := h.rt r hr
    rw [kk (8 + 3 * r) (by omega) (by omega) (by omega), kk (8 + 3 * r + 1) (by omega) (by omega) (by omega)]
    by_cases z : r = a
    · subst z
      exact ⟨x, y, _, hx, hy, by omega, ex, ey, k2⟩
    · refine ⟨x, y, g, hx, hy, hg, ex, ey, ?_⟩
      rw [kk _ (by omega) (by omega) (by omega)]; exact eg
  · rw [el]
    have eg : ∀ a', a' ≤ 5 → rg (rInto N k (nI a) c (rg N a)) a' = if a' = a then max (rg N a) (b + 1) else rg N a' := by
      intro a' ha'
      by_cases z : a' = a
      · subst z
        rw [if_pos rfl]
        show (rInto N k (nI a') c (rg N a') (8 + 3 * a' + 2)).toNatClampNeg = _
        rw [k2, nI_clamp (by omega)]
      · rw [if_neg z]
        show (rInto N k (nI a) c (rg N a) (8 + 3 * a' + 2)).toNatClampNeg = _
        rw [kk _ (by omega) (by omega) (by omega)]
        rfl
    refine h.li.set (lqs_get hk) rfl (fun a' ha' => ?_) ⟨m, cd, w, pr, q, e1, h1, e2, h2, e3, h3, h3', e4, h4, e5, h5, Or.inr ⟨a, b, ha, ?_, rfl, rfl⟩⟩ (fun a' ha' b' hb' => ?_)
    · rw [eg a' ha']
      split
      · next z => rw [z]; omega
      · exact Nat.le_refl _
    · rw [eg a ha, if_pos rfl]; omega
    · have := h.li.wt a' ha' b' hb'
      by_cases z : a' = a ∧ b' = b
      · obtain ⟨rfl, rfl⟩ := z
        have : lqW (nI a') (nI b') (N (62 + 7 * k), N (62 + 7 * k + 1), N (62 + 7 * k + 2), N (62 + 7 * k + 3), N (62 + 7 * k + 4), nI a', nI b') = w := by
          unfold lqW
          rw [if_pos ⟨rfl, Or.inr rfl⟩]
          show (N (62 + 7 * k + 2)).toNatClampNeg = w
          rw [e3, nI_clamp (by omega)]
        omega
      · have : lqW (nI a') (nI b') (N (62 + 7 * k), N (62 + 7 * k + 1), N (62 + 7 * k + 2), N (62 + 7 * k + 3), N (62 + 7 * k + 4), nI a, nI b) = 0 := by
          unfold lqW
          refine if_neg (fun y => z ⟨((nI_eq (by omega) (by omega)).mp y.1).symm, ?_⟩)
          rcases y.2 with y2 | y2
          · exact absurd y2 (nI_nm1 (by omega))
          · exact ((nI_eq (by omega) (by omega)).mp y2).symm
        omega
theorem rIV.sk (h : rIV N c t nx) (hn : nx ≤ 100000) {pr : Int32} : ∀ i, i ≤ c → rIV (rSK N pr c t i).1 c t nx ∧ ∃ m, m ≤ i ∧ (rSK N pr c t i).2 = nI m
  | 0, _ => ⟨h, 0, Nat.le_refl _, rfl⟩
  | i + 1, hi => by
    obtain ⟨a, m, hm, b⟩ := rIV.sk h hn (pr := pr) i (by omega)
    rw [rSK_s]
    split
    · next z => exact ⟨(a.into hn (by omega) z.2).1, m + 1, by omega, by show _ + nI 1 = _; rw [b, nI_add]⟩
    · exact ⟨a, m, by omega, b⟩
theorem rIV.sa (h : rIV N c t nx) (hn : nx ≤ 100000) : rIV (rSA N c t).1 c t nx ∧ ∃ m, m ≤ 40 ∧ (rSA N c t).2 = nI m := by
  obtain ⟨a, m, hm, b⟩ := h.sk hn (pr := nI 1) c (Nat.le_refl _)
  obtain ⟨a2, m2, hm2, b2⟩ := a.sk hn (pr := nI 0) c (Nat.le_refl _)
  have := h.hc
  exact ⟨a2, m + m2, by omega, by show _ + _ = _; rw [b, b2, nI_add]⟩
theorem rIV.tick (h : rIV N c t nx) : rIV (rTick N) c t nx := by
  have ht := h.ht
  have k : ∀ q, q ≠ 0 → q ≠ 1 → rTick N q = N q := fun q q0 q1 => by
    unfold rTick
    rw [pk_un q0, pk_un q1]
  refine ⟨⟨h.hc, by rw [k 3 (by omega) (by omega)]; exact h.h3⟩, ⟨ht, by rw [k 4 (by omega) (by omega)]; exact h.h4⟩, ?_, ⟨by rw [k 2 (by omega) (by omega)]; exact h.n2, by rw [k 5 (by omega) (by omega), k 6 (by omega) (by omega)]; exact h.sum⟩, fun r hr => by rw [k (8 + 3 * r) (by omega) (by omega), k (8 + 3 * r + 1) (by omega) (by omega), k (8 + 3 * r + 2) (by omega) (by omega)]; exact h.rt r hr, rUp_cg ht (fun q q1 q2 => (k q (by omega) (by omega)).symm) h.up, rPv_cg ht (fun q q1 q2 => (k q (by omega) (by omega)).symm) h.pv, ?_⟩
  · obtain ⟨hh, h1, h2⟩ := h.hh
    have key : ∀ z, z < 24 → ∃ y, y < 24 ∧ nI z + nI 1 - (nI z + nI 1) / nI 24 * nI 24 = nI y := by decide +kernel
    obtain ⟨y, hy, e⟩ := key hh h1
    refine ⟨y, hy, ?_⟩
    unfold rTick
    rw [pk_us, h2, e]
  · rw [lqs_cg (N' := N) (fun q q1 q2 => k q (by omega) (by omega))]
    refine h.li.cg (fun a ha => ?_)
    unfold rg
    rw [k _ (by omega) (by omega)]
theorem rIV.dep (h : rIV N c t nx) {r : Nat} (hr : r ≤ 5) : ∃ c' m, rIV (rDE (nI r) (rDL (nI r) t c N 0 (nI 0))) c' t nx ∧ c' + m ≤ c ∧ (rDL (nI r) t c N 0 (nI 0)).2 = nI m := by
  have ht := h.ht
  obtain ⟨c', r1, r2, r3, r4, r5, r6, r7, r8⟩ := rDL_ls (N0 := N) (rt := nI r) ht c 0 c N (nI 0) [] (lqs N c) (by omega) h.hc h.h3 (fun _ _ _ => rfl) rfl lqs_len rfl
  have hlen := lqF_len (N0 := N) (rt := nI r) (t := t) (lqs N c)
  rw [lqs_len] at hlen
  obtain ⟨R, hR⟩ : ∃ R, rDL (nI r) t c N 0 (nI 0) = R := ⟨_, rfl⟩
  rw [hR] at r3 r4 r5 r6 r7 r8 ⊢
  rw [nI_add, Nat.zero_add] at r5
  rw [Nat.zero_add] at r1
  have ei : rIx (nI r) = r := rIx_nI hr
  have k : ∀ q, q ≠ 5 → q ≠ 8 + 3 * r + 2 → rDE (nI r) R q = R.1 q := fun q q1 q2 => by
    unfold rDE
    rw [pk_un q1, ei, pk_un q2]
  have k8 : ∀ q, q < 62 → q ≠ 3 → q ≠ 6 → q ≠ 7 → q ≠ 5 → q ≠ 8 + 3 * r + 2 → rDE (nI r) R q = N q := fun q q1 q2 q3 q4 q5 q6 => (k q q5 q6).trans (r8 q q1 q2 q3 q4)
  have k2 : rDE (nI r) R (8 + 3 * r + 2) = nI 0 := by
    unfold rDE
    rw [pk_un (by omega), ei, pk_us]
  obtain ⟨dl, dd, e5, e6, e⟩ := h.sum
  refine ⟨c', _, ⟨⟨by have := h.hc; omega, by rw [k 3 (by omega) (by omega)]; exact r3⟩, ⟨ht, by rw [k8 4 (by omega) (by omega) (by omega) (by omega) (by omega) (by omega)]; exact h.h4⟩, by rw [k8 0 (by omega) (by omega) (by omega) (by omega) (by omega) (by omega)]; exact h.hh, ⟨by rw [k8 2 (by omega) (by omega) (by omega) (by omega) (by omega) (by omega)]; exact h.n2, dl + (lqs N c).countP (lqD N (nI r) t), dd + (lqs N c).countP (lqX N (nI r) t), ?_, ?_, by omega⟩, fun r' hr' => ?_, rUp_cg ht (fun q q1 q2 => (k8 q (by omega) (by omega) (by omega) (by omega) (by omega) (by omega)).symm) h.up, rPv_cg ht (fun q q1 q2 => (k8 q (by omega) (by omega) (by omega) (by omega) (by omega) (by omega)).symm) h.pv, ?_⟩, by omega, r5⟩
  · unfold rDE
    rw [pk_us, ei, pk_un (by omega), r8 5 (by omega) (by omega) (by omega) (by omega), e5, r5, nI_add]
  · rw [k 6 (by omega) (by omega), r6, e6, nI_add]
  · obtain ⟨x, y, g, hx, hy, hg, ex, ey, eg⟩ := h.rt r' hr'
    rw [k8 (8 + 3 * r') (by omega) (by omega) (by omega) (by omega) (by omega) (by omega), k8 (8 + 3 * r' + 1) (by omega) (by omega) (by omega) (by omega) (by omega) (by omega)]
    by_cases z : r' = r
    · subst z
      exact ⟨x, y, 0, hx, hy, by omega, ex, ey, k2⟩
    · refine ⟨x, y, g, hx, hy, hg, ex, ey, ?_⟩
      rw [k8 _ (by omega) (by omega) (by omega) (by omega) (by omega) (by omega)]; exact eg
  · rw [lqs_cg (N' := R.1) (fun q q1 q2 => k q (by omega) (by omega)), r4, List.nil_append]
    refine (h.li.dep (N0 := N) (t := t) hr).cg (fun a ha => ?_)
    by_cases z : a = r
    · subst z
      unfold rg
      rw [k2, if_pos rfl]
      decide
    · rw [if_neg z]
      unfold rg
      rw [k8 _ (by omega) (by omega) (by omega) (by omega) (by omega) (by omega)]
theorem rIV.rtI {X : (Nat → Int32) × Int32} (h : rIV X.1 c t nx) {i : Nat} (hi : i ≤ 5) {a : Nat} (e : X.2 = nI a) : ∃ c' m, rIV (rRt X i).1 c' t nx ∧ c' + m ≤ c ∧ (rRt X i).2 = nI (a + m) := by
  unfold rRt
  split
  · obtain ⟨c', m, h1, h2, h3⟩ := h.dep hi
    rw [h.t_eq, h.c_eq]
    exact ⟨c', m, h1, h2, by show X.2 + _ = _; rw [e, h3, nI_add]⟩
  · exact ⟨c, 0, h, by omega, e⟩
theorem rIV.rf : ∀ (n i : Nat) {c : Nat} {X : (Nat → Int32) × Int32} {a : Nat}, i + n = 6 → rIV X.1 c t nx → X.2 = nI a → ∃ c' m, rIV (rRF n i X).1 c' t nx ∧ c' + m ≤ c ∧ (rRF n i X).2 = nI (a + m)
  | 0, i, c, X, a, _, h, e => ⟨c, 0, h, by omega, e⟩
  | n + 1, i, c, X, a, hn, h, e => by
    obtain ⟨c', m, h1, h2, h3⟩ := h.rtI (i := i) (by omega) e
    obtain ⟨c2, m2, g1, g2, g3⟩ := rIV.rf n (i + 1) (by omega) h1 h3
    exact ⟨c2, m + m2, g1, by omega, by show (rRF n (i + 1) (rRt X i)).2 = _; rw [g3, Nat.add_assoc]⟩
theorem rIV.hf : ∀ (n : Nat) {c : Nat} {X : (Nat → Int32) × Int32} {a : Nat}, rIV X.1 c t nx → X.2 = nI a → ∃ c' m, rIV (rHF n X).1 c' t nx ∧ c' + m ≤ c ∧ (rHF n X).2 = nI (a + m)
  | 0, c, X, a, h, e => ⟨c, 0, h, by omega, e⟩
  | n + 1, c, X, a, h, e => by
    obtain ⟨c', m, h1, h2, h3⟩ := rIV.rf 6 0 (X := (rTick X.1, X.2)) rfl h.tick e
    obtain ⟨c2, m2, g1, g2, g3⟩ := rIV.hf n h1 h3
    exact ⟨c2, m + m2, g1, by omega, by show (rHF n (rRF 6 0 (rTick X.1, X.2))).2 = _; rw [g3, Nat.add_assoc]⟩
end GIv3
