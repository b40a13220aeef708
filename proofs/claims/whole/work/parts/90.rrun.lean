/-! THE REFERENCE RUNS A PROGRAM -/
section SRr
def pcK (c : pcT) : Prop := c.1 < 10 ∧ c.2.2.2 ≤ 4 ∧ c.2.1 < 10000 ∧ c.2.2.1 < 100
theorem pnR_K {tx : Nat → Nat} {n w p p' : Nat} {c : pcT} (hw : w < 10) (h : pnR tx n w p = .inr (c, p')) : pcK c := by
  obtain ⟨a1, a2, a3⟩ := nmv_le (tx := tx) (n := n) (k := kd1 w) (p := p) (v := 0)
  obtain ⟨b1, b2, b3⟩ := nmv_le (tx := tx) (n := n) (k := kd2 w) (p := p + (nmv tx n (kd1 w) p 0).2 + 1) (v := 0)
  have k1 : ∀ w, w < 10 → kd1 w ≤ 4 := by decide
  have k2 : ∀ w, w < 10 → kd2 w ≤ 2 := by decide
  have k1 := k1 w hw
  have k2 := k2 w hw
  have p1 : 10 ^ kd1 w ≤ 10 ^ 4 := Nat.pow_le_pow_right (by decide) k1
  have p2 : 10 ^ kd2 w ≤ 10 ^ 2 := Nat.pow_le_pow_right (by decide) k2
  unfold pnR at h
  by_cases c1 : (nmv tx n (kd1 w) p 0).2 = 0
  · rw [if_pos c1] at h; cases h
  · rw [if_neg c1] at h
    by_cases c2 : kd2 w = 0
    · rw [if_pos c2] at h
      cases h
      exact ⟨hw, by show (nmv tx n (kd1 w) p 0).2 ≤ 4; omega, by show (nmv tx n (kd1 w) p 0).1 < 10000; omega, by show 0 < 100; decide⟩
    · rw [if_neg c2] at h
      by_cases c3 : ¬ (p + (nmv tx n (kd1 w) p 0).2 < n ∧ tx (p + (nmv tx n (kd1 w) p 0).2) = 32)
      · rw [if_pos c3] at h; cases h
      · rw [if_neg c3] at h
        by_cases c4 : (nmv tx n (kd2 w) (p + (nmv tx n (kd1 w) p 0).2 + 1) 0).2 = 0
        · rw [if_pos c4] at h; cases h
        · rw [if_neg c4] at h
          cases h
          exact ⟨hw, by show (nmv tx n (kd1 w) p 0).2 ≤ 4; omega, by show (nmv tx n (kd1 w) p 0).1 < 10000; omega, by show (nmv tx n (kd2 w) _ 0).1 < 100; omega⟩
theorem pcR_K {tx : Nat → Nat} {n p p' : Nat} {c : pcT} (h : pcR tx n p = .inr (c, p')) : pcK c := by
  cases e : kd tx n p 10 with
  | none => rw [pcR_no e] at h; cases h
  | some w =>
    obtain ⟨hw, hc⟩ := kd_in e
    by_cases y : w = 4
    · subst y
      rw [pcR_4 e] at h
      by_cases z : p + 4 < n ∧ tx (p + 4) = 32
      · rw [if_pos z] at h
        exact pnR_K (by decide) h
      · rw [if_neg z] at h
        cases h
        exact ⟨by decide, by decide, by decide, by decide⟩
    · rw [pcR_w e y] at h
      exact pnR_K hw h
theorem ppR_K {tx : Nat → Nat} {n : Nat} : ∀ {f p : Nat} {acc cs : List pcT}, (∀ c ∈ acc, pcK c) → ppR tx n f p acc = .inr cs → ∀ c ∈ cs, pcK c
  | 0, p, acc, cs, ha, h => by cases h
  | f + 1, p, acc, cs, ha, h => by
    cases e : pcR tx n p with
    | inl x => rw [ppR_no e] at h; cases h
    | inr x =>
      obtain ⟨c, p'⟩ := x
      rw [ppR_s e] at h
      have ha2 : ∀ y ∈ acc ++ [c], pcK y := by
        intro y hy
        rcases List.mem_append.mp hy with z | z
        · exact ha y z
        · rw [List.mem_singleton.mp z]; exact pcR_K e
      split at h
      · cases h; exact ha2
      · split at h
        · exact ppR_K ha2 h
        · cases h
/-- the commands one by one: the place of the one that fails, or the row they leave -/
def exR (N : Nat → Int32) : List pcT → Nat → Nat ⊕ (Nat → Int32)
  | [], _ => .inr N
  | x :: xs, i => if (dT N (rc N) (rtt N) x).1 = 0 then exR (dT N (rc N) (rtt N) x).2.2 xs (i + 1) else .inl i
theorem exR_s {N : Nat → Int32} {x : pcT} {xs : List pcT} {i : Nat} : exR N (x :: xs) i = if (dT N (rc N) (rtt N) x).1 = 0 then exR (dT N (rc N) (rtt N) x).2.2 xs (i + 1) else .inl i := rfl
theorem exR_G : ∀ {cs : List pcT} {N N' : Nat → Int32} {c t nx i : Nat}, rIV N c t nx → nx + cs.length ≤ 100000 → (∀ x ∈ cs, pcK x) → exR N cs i = .inr N' → ∃ c' t' n', rIV N' c' t' n' ∧ n' ≤ nx + cs.length
  | [], N, N', c, t, nx, i, h, hn, hk, e => by
    cases e
    exact ⟨c, t, nx, h, Nat.le_refl _⟩
  | x :: xs, N, N', c, t, nx, i, h, hn, hk, e => by
    rw [List.length_cons] at hn
    rw [exR_s] at e
    split at e
    · next z =>
      rw [h.c_eq, h.t_eq] at z e
      obtain ⟨c', t', n', a, h1, h2, -, -⟩ := dT_G h (by omega) (hk x List.mem_cons_self).1 z
      obtain ⟨c2, t2, n2, g1, g2⟩ := exR_G h1 (by omega) (fun y hy => hk y (List.mem_cons_of_mem _ hy)) e
      exact ⟨c2, t2, n2, g1, by rw [List.length_cons]; omega⟩
    · cases e
theorem exR_i : ∀ {cs : List pcT} {N : Nat → Int32} {i j : Nat}, exR N cs i = .inl j → i ≤ j ∧ j < i + cs.length
  | [], N, i, j, e => by cases e
  | x :: xs, N, i, j, e => by
    rw [exR_s] at e
    split at e
    · have := exR_i e
      rw [List.length_cons]
      omega
    · cases e
      rw [List.length_cons]
      omega
def runZ (V : Nat → Int32) (F : Nat → Nat → Int32) (R : Nat ⊕ List pcT) (r : Nat) (v : Option Value) (V1 : Nat → Int32) (F1 : Nat → Nat → Int32) : Prop := (∀ j, j < 13 → j ≠ 6 → j ≠ 7 → j ≠ 8 → j ≠ 10 → V1 j = V j) ∧ V1 10 = nI 0 ∧ (∀ j, j ≠ 0 → j ≠ 1 → j ≠ 4 → j ≠ 19 → F1 j = F j) ∧ match R with
  | .inl e => v = some (.int (nI 0)) ∧ V1 13 = nI 1 ∧ V1 7 = nI e ∧ V1 8 = V 8 ∧ V1 6 = V 6 ∧ F1 0 = F 0 ∧ F1 4 = F 4
  | .inr cs => V1 7 = V 7 ∧ match exR (F 0) cs 0 with
    | .inl i => v = some (.int (nI 0)) ∧ V1 13 = nI 2 ∧ V1 8 = nI i ∧ V1 6 = V 6 ∧ F1 0 = F 0 ∧ F1 4 = F 4
    | .inr N' => v = some (.int (nI cs.length)) ∧ V1 13 = nI 0 ∧ V1 8 = V 8 ∧ V1 6 = nI (rMr r) ∧ F1 0 = N' ∧ F1 4 = rMem (F 4) (F 0) r
variable {Γ : gE} {o : Nat} {ad : Nat → Nat} {V : Nat → Int32} {F : Nat → Nat → Int32}
theorem r_run {d1 d10 : Nat} {vf : Value} (hp : gPsb Γ d1 d10 vf) {nm : Nat} (hnm : gPnm Γ nm) {n : Nat} {tx : Nat → Nat} (e10 : V 10 = nI n) (hn : n ≤ 60) (hT : ∀ i, i < n → F 9 i = nI (tx i) ∧ tx i < 128) {r : Nat} (hr : r ≤ 8) (h6 : V 6 = nI r) {c t nx : Nat} (h : rIV (F 0) c t nx) (hnx : nx + 12 < 100000) : mE Γ o ad M_X10_run [] V F 8 (runZ V F (ppR tx n (n + 1) 0 []) r) := by
  have loop : ∀ (cs : List pcT), (ppR tx n (n + 1) 0 [] = .inr cs) → cs.length ≤ 12 → (∀ x ∈ cs, pcK x) → ∀ (xs : List pcT) (i c t nx : Nat) (U : Nat → Int32) (W : Nat → Nat → Int32), rIV (W 0) c t nx → nx + xs.length < 100000 → (∀ j, j ≠ 0 → j ≠ 1 → j ≠ 19 → W j = F j) → W 1 = F 0 → (∀ j, j < 13 → j ≠ 10 → U j = V j) → U 10 = nI 0 → U 13 = nI 0 → U 17 = nI cs.length → i + xs.length = cs.length → (∀ d x, xs[d]? = some x → rowOK (W 19) (i + d) x) → (∀ x ∈ xs, x ∈ cs) → exR (F 0) cs 0 = exR (W 0) xs i → mH Γ o ad M_X10_run 8 (runZ V F (ppR tx n (n + 1) 0 []) r) 38 [some (.ref o), some (.int (nI i)), none] [] U W := by
    intro cs hR hcs hK xs
    induction xs with
    | nil =>
      intro i c t nx U W hI hnx hW hW1 hU h10 h13 h17 hi hrow hsub hE
      refine n_blk [(.iload_n 1, .null), (.aload_n 0, .null)] (Nat.le_of_ble_eq_true rfl) (by decide +kernel) ?_
      refine gx_iload_n_1 (gx_aload_n_0 ((gx_nil ?_)))
      refine n_getI fX10_247 (by decide +kernel) rfl ?_
      try simp only [vU_s, vU_n, ne_eq, Nat.reduceEqDiff, not_false_eq_true, h13, h17, h10, nI_add, pk_mul, Nat.add_zero, Nat.zero_add, Nat.reduceAdd, Nat.reduceMul]
      refine n_icmp_ge (off := 49) (tgt := 92) (by decide +kernel) (by decide) (fun c43 => ?_) (fun c43 => ?_)
      · try simp only [bI_0, Decidable.not_not] at c43
        refine n_blk [(.aload_n 0, .null), (.aload_n 0, .null)] (Nat.le_of_ble_eq_true rfl) (by decide +kernel) ?_
        refine gx_aload_n_0 (gx_aload_n_0 ((gx_nil ?_)))
        refine n_getI fX10_247 (by decide +kernel) rfl ?_
        try simp only [vU_s, vU_n, ne_eq, Nat.reduceEqDiff, not_false_eq_true, h13, h17, h10, nI_add, pk_mul, Nat.add_zero, Nat.zero_add, Nat.reduceAdd, Nat.reduceMul]
        refine n_call kX10_115 (r_ends (V := U) (F := W) _ hr ((hU 6 (by decide) (by decide)).trans h6)) (by decide +kernel) rfl rfl (Nat.le_of_ble_eq_true rfl) (Nat.le_of_ble_eq_true rfl) (Nat.le_of_ble_eq_true rfl) rfl ?_
        rw [if_pos (show U 13 = 0 from h13.trans (by decide)), if_pos (show U 13 = 0 from h13.trans (by decide)), if_pos (show U 13 = 0 from h13.trans (by decide))]
        simp only [Option.toList_some, List.cons_append, List.nil_append]
        refine n_end (some (.int _)) rfl ⟨by decide +kernel, _, rfl, rfl⟩ ?_
        refine ⟨fun j j1 j2 j3 j4 j5 => by rw [vU_n j2]; exact hU j j1 j5, by rw [vU_n (by decide)]; exact h10, fun j j0 j1 j4 j19 => by rw [fR_n j4]; exact hW j j0 j1 j19, ?_⟩
        rw [hR]
        refine ⟨by rw [vU_n (by decide)]; exact hU 7 (by decide) (by decide), ?_⟩
        rw [hE]
        exact ⟨rfl, by rw [vU_n (by decide)]; exact h13, by rw [vU_n (by decide)]; exact hU 8 (by decide) (by decide), vU_s, by rw [fR_n (by decide)], by rw [fR_s, hW1, hW 4 (by decide) (by decide) (by decide)]⟩
      · try simp only [bI_0, Decidable.not_not] at c43
        exact absurd (nI_le (by have : i + 0 = cs.length := hi; omega) (by omega)) c43
    | cons x xs ih =>
      intro i c t nx U W hI hnx hW hW1 hU h10 h13 h17 hi hrow hsub hE
      rw [List.length_cons] at hi hnx
      have hx := hK x (hsub x List.mem_cons_self)
      have hrx := hrow 0 x rfl
      rw [Nat.add_zero] at hrx
      refine n_blk [(.iload_n 1, .null), (.aload_n 0, .null)] (Nat.le_of_ble_eq_true rfl) (by decide +kernel) ?_
      refine gx_iload_n_1 (gx_aload_n_0 ((gx_nil ?_)))
      refine n_getI fX10_247 (by decide +kernel) rfl ?_
      try simp only [vU_s, vU_n, ne_eq, Nat.reduceEqDiff, not_false_eq_true, h13, h17, h10, nI_add, pk_mul, Nat.add_zero, Nat.zero_add, Nat.reduceAdd, Nat.reduceMul]
      refine n_icmp_ge (off := 49) (tgt := 92) (by decide +kernel) (by decide) (fun c43 => ?_) (fun c43 => ?_)
      · try simp only [bI_0, Decidable.not_not] at c43
        exact absurd c43 (nI_ge (by omega) (by omega))
      · try simp only [bI_0, Decidable.not_not] at c43
        refine n_blk [(.aload_n 0, .null), (.iconst 4, .int (nI 4)), (.iload_n 1, .null), (.imul, .null)] (Nat.le_of_ble_eq_true rfl) (by decide +kernel) ?_
        refine gx_aload_n_0 (gx_iconst (gx_iload_n_1 (gx_imul ((gx_nil ?_)))))
        try simp only [h13, h17, h10, nI_add, pk_mul, Nat.add_zero, Nat.zero_add, Nat.reduceAdd, Nat.reduceMul]
        refine n_callE kX10_263 (r_does (V := U) (F := W) hI (by omega) (by omega) hx.1 hx.2.1 hrx) (by decide +kernel) rfl rfl (Nat.le_of_ble_eq_true rfl) (Nat.le_of_ble_eq_true rfl) (Nat.le_of_ble_eq_true rfl) rfl (fun wv V1 F1 hQ => ?_)
        obtain ⟨⟨z, hz⟩, -, hV1, hF1⟩ := hQ
        rw [hz, hV1, hF1]
        simp only [Option.toList_some, List.cons_append, List.nil_append]
        refine n_blk [(.istore_n 2, .null), (.aload_n 0, .null)] (Nat.le_of_ble_eq_true rfl) (by decide +kernel) ?_
        refine gx_istore_n_2 rfl (gx_aload_n_0 ((gx_nil ?_)))
        refine n_getI fX10_45 (by decide +kernel) rfl ?_
        try simp only [vU_s, vU_n, ne_eq, Nat.reduceEqDiff, not_false_eq_true, h13, h17, h10, nI_add, pk_mul, Nat.add_zero, Nat.zero_add, Nat.reduceAdd, Nat.reduceMul]
        refine n_if_eq (off := 28) (tgt := 86) (by decide +kernel) (by decide) (fun c58 => ?_) (fun c58 => ?_)
        · try simp only [bI_0, Decidable.not_not] at c58
          refine n_blk [(.iinc 1 1, .int (nI 1)), (.goto (-51), .retAddr 38)] (Nat.le_of_ble_eq_true rfl) (by decide +kernel) ?_
          refine gx_iinc_1 rfl (gx_goto ((gx_nil ?_)))
          try simp only [h13, h17, h10, nI_add, pk_mul, Nat.add_zero, Nat.zero_add, Nat.reduceAdd, Nat.reduceMul]
          rw [if_pos c58]
          rw [exR_s, hI.c_eq, hI.t_eq, if_pos c58] at hE
          obtain ⟨c', t', n', a, g1, g2, -, -⟩ := dT_G hI (by omega) hx.1 c58
          refine n_weak (by simp [gLe]) (ih (i + 1) c' t' n' (vU U 13 (dT (W 0) c t x).1) (fR W 0 (dT (W 0) c t x).2.2) (by rw [fR_s]; exact g1) (by omega) (fun j j0 j1 j2 => by rw [fR_n j0]; exact hW j j0 j1 j2) (by rw [fR_n (by decide)]; exact hW1) (fun j j1 j2 => by rw [vU_n (by omega)]; exact hU j j1 j2) (by rw [vU_n (by decide)]; exact h10) (by rw [vU_s, c58]; decide) (by rw [vU_n (by decide)]; exact h17) (by omega) (fun d y hy => ?_) (fun y hy => hsub y (List.mem_cons_of_mem _ hy)) (by rw [fR_s]; exact hE))
          rw [fR_n (by decide), show i + 1 + d = i + (d + 1) by omega]
          exact hrow (d + 1) y hy
        · try simp only [bI_0, Decidable.not_not] at c58
          rw [if_neg c58]
          rw [exR_s, hI.c_eq, hI.t_eq, if_neg c58] at hE
          refine n_blk [(.aload_n 0, .null), (.iload_n 1, .null)] (Nat.le_of_ble_eq_true rfl) (by decide +kernel) ?_
          refine gx_aload_n_0 (gx_iload_n_1 ((gx_nil ?_)))
          refine n_putI fX10_29 (by decide +kernel) rfl (by decide) rfl rfl ?_
          refine n_blk [(.aload_n 0, .null), (.iconst 2, .int (nI 2))] (Nat.le_of_ble_eq_true rfl) (by decide +kernel) ?_
          refine gx_aload_n_0 (gx_iconst ((gx_nil ?_)))
          refine n_putI fX10_45 (by decide +kernel) rfl (by decide) rfl rfl ?_
          refine n_blk [(.aload_n 0, .null)] (Nat.le_of_ble_eq_true rfl) (by decide +kernel) ?_
          refine gx_aload_n_0 ((gx_nil ?_))
          refine n_getR fX10_13 (by decide +kernel) rfl ?_
          refine n_blk [(.iconst 0, .int (nI 0)), (.aload_n 0, .null)] (Nat.le_of_ble_eq_true rfl) (by decide +kernel) ?_
          refine gx_iconst (gx_aload_n_0 ((gx_nil ?_)))
          refine n_getR fX10_9 (by decide +kernel) rfl ?_
          refine n_blk [(.iconst 0, .int (nI 0))] (Nat.le_of_ble_eq_true rfl) (by decide +kernel) ?_
          refine gx_iconst ((gx_nil ?_))
          refine n_callR kX10_52 (r_copies0 (i := 1) (j := 0) rfl rfl (by decide) rfl rfl) (by decide +kernel) rfl rfl (Nat.le_of_ble_eq_true rfl) (Nat.le_of_ble_eq_true rfl) (Nat.le_of_ble_eq_true rfl) rfl ?_
          try simp only [Option.toList_some, Option.toList_none, List.cons_append, List.nil_append, bI_0, n1_0, n0_0, Decidable.not_not, not_true_eq_false, not_false_eq_true, h13, h17, h10, nI_add, pk_mul, Nat.add_zero, Nat.zero_add, Nat.reduceAdd, Nat.reduceMul]
          refine n_blk [(.iconst 0, .int (nI 0))] (Nat.le_of_ble_eq_true rfl) (by decide +kernel) ?_
          refine gx_iconst ((gx_nil ?_))
          refine n_end (some (.int _)) rfl ⟨by decide +kernel, _, rfl, rfl⟩ ?_
          refine ⟨fun j j1 j2 j3 j4 j5 => by rw [vU_n (by omega), vU_n j4, vU_n (by omega)]; exact hU j j1 j5, by rw [vU_n (by decide), vU_n (by decide), vU_n (by decide)]; exact h10, fun j j0 j1 j4 j19 => by rw [fR_n j0, fR_n j0]; exact hW j j0 j1 j19, ?_⟩
          rw [hR]
          refine ⟨by rw [vU_n (by decide), vU_n (by decide), vU_n (by decide)]; exact hU 7 (by decide) (by decide), ?_⟩
          rw [hE]
          exact ⟨rfl, vU_s, by rw [vU_n (by decide), vU_s], by rw [vU_n (by decide), vU_n (by decide), vU_n (by decide)]; exact hU 6 (by decide) (by decide), by rw [fR_s, fR_n (by decide)]; exact hW1, by rw [fR_n (by decide), fR_n (by decide)]; exact hW 4 (by decide) (by decide) (by decide)⟩
  refine mE_of (by decide) rfl (Nat.le_of_ble_eq_true rfl) [some (.ref o), none, none] rfl ?_
  refine n_blk [(.aload_n 0, .null)] (Nat.le_of_ble_eq_true rfl) (by decide +kernel) ?_
  refine gx_aload_n_0 ((gx_nil ?_))
  refine n_callE kX10_260 (r_readsAll hp hnm e10 hn hT) (by decide +kernel) rfl rfl (Nat.le_of_ble_eq_true rfl) (Nat.le_of_ble_eq_true rfl) (Nat.le_of_ble_eq_true rfl) rfl (fun wv V1 F1 hQ => ?_)
  obtain ⟨rfl, q1, q2, q3, q4, q5⟩ := hQ
  simp only [Option.toList_none, List.nil_append]
  cases hR : ppR tx n (n + 1) 0 [] with
  | inl e =>
    obtain ⟨he, e16⟩ := q4 e hR
    rw [← hR]
    refine n_blk [(.aload_n 0, .null)] (Nat.le_of_ble_eq_true rfl) (by decide +kernel) ?_
    refine gx_aload_n_0 ((gx_nil ?_))
    refine n_getI fX10_221 (by decide +kernel) rfl ?_
    try simp only [vU_s, vU_n, ne_eq, Nat.reduceEqDiff, not_false_eq_true, e16, nI_add, pk_mul, Nat.add_zero, Nat.zero_add, Nat.reduceAdd, Nat.reduceMul]
    refine n_blk [(.iconst (-1), .int (-1))] (Nat.le_of_ble_eq_true rfl) (by decide +kernel) ?_
    refine gx_iconst ((gx_nil ?_))
    refine n_icmp_eq (off := 18) (tgt := 27) (by decide +kernel) (by decide) (fun c9 => ?_) (fun c9 => ?_)
    · try simp only [bI_0, Decidable.not_not] at c9
      exact absurd c9 (nI_nm1 (by omega))
    · try simp only [bI_0, Decidable.not_not] at c9
      refine n_blk [(.aload_n 0, .null), (.aload_n 0, .null)] (Nat.le_of_ble_eq_true rfl) (by decide +kernel) ?_
      refine gx_aload_n_0 (gx_aload_n_0 ((gx_nil ?_)))
      refine n_getI fX10_221 (by decide +kernel) rfl ?_
      try simp only [vU_s, vU_n, ne_eq, Nat.reduceEqDiff, not_false_eq_true, e16, nI_add, pk_mul, Nat.add_zero, Nat.zero_add, Nat.reduceAdd, Nat.reduceMul]
      refine n_putI fX10_25 (by decide +kernel) rfl (by decide) rfl rfl ?_
      refine n_blk [(.aload_n 0, .null), (.iconst 1, .int (nI 1))] (Nat.le_of_ble_eq_true rfl) (by decide +kernel) ?_
      refine gx_aload_n_0 (gx_iconst ((gx_nil ?_)))
      refine n_putI fX10_45 (by decide +kernel) rfl (by decide) rfl rfl ?_
      refine n_blk [(.iconst 0, .int (nI 0))] (Nat.le_of_ble_eq_true rfl) (by decide +kernel) ?_
      refine gx_iconst ((gx_nil ?_))
      refine n_end (some (.int _)) rfl ⟨by decide +kernel, _, rfl, rfl⟩ ?_
      refine ⟨fun j j1 j2 j3 j4 j5 => by rw [vU_n (by omega), vU_n j3]; exact q2 j (by omega) j5, by rw [vU_n (by decide), vU_n (by decide)]; exact q3, fun j j0 j1 j4 j19 => q1 j j19, ?_⟩
      rw [hR]
      exact ⟨rfl, vU_s, by rw [vU_n (by decide), vU_s], by rw [vU_n (by decide), vU_n (by decide)]; exact q2 8 (by decide) (by decide), by rw [vU_n (by decide), vU_n (by decide)]; exact q2 6 (by decide) (by decide), q1 0 (by decide), q1 4 (by decide)⟩
  | inr cs =>
    obtain ⟨e16, e17, hcs, hrow⟩ := q5 cs hR
    rw [← hR]
    refine n_blk [(.aload_n 0, .null)] (Nat.le_of_ble_eq_true rfl) (by decide +kernel) ?_
    refine gx_aload_n_0 ((gx_nil ?_))
    refine n_getI fX10_221 (by decide +kernel) rfl ?_
    try simp only [vU_s, vU_n, ne_eq, Nat.reduceEqDiff, not_false_eq_true, e16, nI_add, pk_mul, Nat.add_zero, Nat.zero_add, Nat.reduceAdd, Nat.reduceMul]
    refine n_blk [(.iconst (-1), .int (-1))] (Nat.le_of_ble_eq_true rfl) (by decide +kernel) ?_
    refine gx_iconst ((gx_nil ?_))
    refine n_icmp_eq (off := 18) (tgt := 27) (by decide +kernel) (by decide) (fun c9 => ?_) (fun c9 => ?_)
    · try simp only [bI_0, Decidable.not_not] at c9
      refine n_blk [(.aload_n 0, .null)] (Nat.le_of_ble_eq_true rfl) (by decide +kernel) ?_
      refine gx_aload_n_0 ((gx_nil ?_))
      refine n_call kX10_109 (r_begins) (by decide +kernel) rfl rfl (Nat.le_of_ble_eq_true rfl) (Nat.le_of_ble_eq_true rfl) (Nat.le_of_ble_eq_true rfl) rfl ?_
      try simp only [Option.toList_some, Option.toList_none, List.cons_append, List.nil_append, bI_0, n1_0, n0_0, Decidable.not_not, not_true_eq_false, not_false_eq_true, e16, nI_add, pk_mul, Nat.add_zero, Nat.zero_add, Nat.reduceAdd, Nat.reduceMul]
      refine n_blk [(.aload_n 0, .null), (.iconst 0, .int (nI 0))] (Nat.le_of_ble_eq_true rfl) (by decide +kernel) ?_
      refine gx_aload_n_0 (gx_iconst ((gx_nil ?_)))
      refine n_putI fX10_45 (by decide +kernel) rfl (by decide) rfl rfl ?_
      refine n_blk [(.iconst 0, .int (nI 0)), (.istore_n 1, .null)] (Nat.le_of_ble_eq_true rfl) (by decide +kernel) ?_
      refine gx_iconst (gx_istore_n_1 rfl ((gx_nil ?_)))
      refine n_weak (by simp [gLe]) (loop cs hR hcs (ppR_K (fun y hy => by cases hy) hR) cs 0 c t nx (vU V1 13 (nI 0)) (fR F1 1 (F1 0)) (by rw [fR_n (by decide), q1 0 (by decide)]; exact h) (by omega) (fun j j0 j1 j2 => by rw [fR_n j1]; exact q1 j j2) (by rw [fR_s, q1 0 (by decide)]) (fun j j1 j2 => by rw [vU_n (by omega)]; exact q2 j (by omega) j2) (by rw [vU_n (by decide)]; exact q3) vU_s (by rw [vU_n (by decide)]; exact e17) (by omega) (fun d x hx => ?_) (fun y hy => hy) (by rw [fR_n (by decide), q1 0 (by decide)]))
      rw [fR_n (by decide), Nat.zero_add]
      exact hrow d x hx
    · try simp only [bI_0, Decidable.not_not] at c9
      exact absurd trivial c9
end SRr
