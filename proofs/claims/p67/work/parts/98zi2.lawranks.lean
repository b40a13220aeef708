/-! THE LAW: ranks -/
section GLd2
variable {Γ : gE} {bm de mi : Nat} {h : gHp} {m : Nat} {N : Nat → Int32} {c t nx : Nat}
theorem cnt_lt {K : Nat → Nat} {x r : Nat} (hr : ¬ K r < x) : ∀ k, r < k → cntL K x k < k
  | 0, h => by omega
  | k + 1, h => by
    show cntL K x k + (if K k < x then 1 else 0) < k + 1
    by_cases y : r = k
    · subst y
      have := cntL_le (K := K) (x := x) r
      rw [if_neg hr]
      omega
    · have := cnt_lt hr k (by omega)
      split <;> omega
theorem rk_cnt (I : rIV N c t nx) (hn : nx ≤ 9000) {r : Nat} (hr : r < 6) : gRank N c r 6 = nI (cntL (rkK N c) (rkK N c r) 6) ∧ cntL (rkK N c) (rkK N c r) 6 < 6 := ⟨gRank_K I (by omega) hr 6 (Nat.le_refl _), cnt_lt (Nat.lt_irrefl _) 6 hr⟩
theorem rk_out (I : rIV N c t nx) (hn : nx ≤ 9000) {x : Int32} (hx : x = nI 6 ∨ x = -1) : rRk N c x 6 = -1 := rRk_no I (by omega) (fun r hr e => by
  obtain ⟨e1, e2⟩ := rk_cnt I hn hr
  rw [e1] at e
  rcases hx with y | y
  · rw [y] at e
    have := (nI_eqI (by omega) (by omega)).mp e
    omega
  · rw [y] at e
    exact nI_nm1 (by omega) e) 6 (Nat.le_refl _)
theorem aq_12 (hp : gPxs Γ) (hnc : gPnc Γ) (H : lP bm Γ de h m N c t nx) {rk : Int32} (hx : rk = nI 6 ∨ rk = -1) : gC Γ M_L_ask [.ref m, .int (nI 12), .int rk, .int (nI 0)] h 32 1 6 (fun v h' => v = some (.int (-2004)) ∧ h' = h) (fun _ _ => False) := by
  obtain ⟨V, F, B, G, hB, rfl, I, hn, hbm⟩ := H
  have ec := I.c_eq
  have et := I.t_eq
  subst ec
  subst et
  obtain ⟨fs, hm⟩ := G.at12
  have no := rk_out I hn hx
  obtain ⟨x9, e9⟩ : ∃ z, z = rRk (F 0) (rc (F 0)) rk 6 := ⟨_, rfl⟩
  have c9 := fa_routeByWeight hp G hB rk
  rw [← e9] at c9 no
  have k := ak_go hnc (fun _ => nm_ex e_NS e_NS e_NS) (as_routeByWeight hm rk (nI 0) c9.go)
  refine gC_post k (fun v h' z => ⟨z.1.trans (congrArg (fun y => some (Value.int y)) ?_), z.2⟩) (fun _ _ z => z)
  have y : ¬ ¬ x9 = -1 := fun z => z no
  exact (rv_1 y).trans xc_NS
theorem aq_12x (hp : gPxs Γ) (hnc : gPnc Γ) (H : lP bm Γ de h m N c t nx) : gC Γ M_L_ask [.ref m, .int (nI 12), .int (nI 6), .int (nI 0)] h 32 1 6 (fun v h' => v = some (.int (-2004)) ∧ h' = h) (fun _ _ => False) := aq_12 hp hnc H (Or.inl rfl)
theorem aq_12y (hp : gPxs Γ) (hnc : gPnc Γ) (H : lP bm Γ de h m N c t nx) : gC Γ M_L_ask [.ref m, .int (nI 12), .int (-1), .int (nI 0)] h 32 1 6 (fun v h' => v = some (.int (-2004)) ∧ h' = h) (fun _ _ => False) := aq_12 hp hnc H (Or.inr rfl)
theorem php9 : ∀ (n : Nat) (f : Nat → Nat), (∀ a, a < n + 1 → f a < n) → (∀ a b, a < n + 1 → b < n + 1 → f a = f b → a = b) → False
  | 0, f, h, _ => by
    have := h 0 (by omega)
    omega
  | n + 1, f, h, hi => by
    have ne : ∀ a, a < n + 1 → f a ≠ f (n + 1) := fun a ha e => by
      have := hi a (n + 1) (by omega) (by omega) e
      omega
    refine php9 n (fun a => if f (n + 1) < f a then f a - 1 else f a) (fun a ha => ?_) (fun a b ha hb e => ?_)
    · have h1 := h a (by omega)
      have h2 := h (n + 1) (by omega)
      have := ne a ha
      show (if f (n + 1) < f a then f a - 1 else f a) < n
      split <;> omega
    · have e : (if f (n + 1) < f a then f a - 1 else f a) = (if f (n + 1) < f b then f b - 1 else f b) := e
      have h1 := ne a ha
      have h2 := ne b hb
      have : f a = f b := by
        by_cases y : f (n + 1) < f a
        · by_cases z : f (n + 1) < f b
          · rw [if_pos y, if_pos z] at e; omega
          · rw [if_pos y, if_neg z] at e; omega
        · by_cases z : f (n + 1) < f b
          · rw [if_neg y, if_pos z] at e; omega
          · rw [if_neg y, if_neg z] at e; omega
      exact hi a b (by omega) (by omega) this
/-- each rank has its route -/
theorem rk_all (I : rIV N c t nx) (hn : nx ≤ 9000) {k : Nat} (hk : k < 6) : ∃ a, a < 6 ∧ cntL (rkK N c) (rkK N c a) 6 = k := by
  refine Classical.byContradiction (fun no => ?_)
  have hl : ∀ r, r < 6 → cntL (rkK N c) (rkK N c r) 6 < 6 := fun r hr => (rk_cnt I hn hr).2
  have hno : ∀ r, r < 6 → cntL (rkK N c) (rkK N c r) 6 ≠ k := fun r hr e => no ⟨r, hr, e⟩
  have hne : ∀ a b, a < 6 → b < 6 → cntL (rkK N c) (rkK N c a) 6 = cntL (rkK N c) (rkK N c b) 6 → a = b := fun a b ha hb e => by
    by_cases hab : a = b
    · exact hab
    · exact absurd (by rw [(rk_cnt I hn ha).1, (rk_cnt I hn hb).1, e]) (rank_ne I (by omega) ha hb hab)
  refine php9 5 (fun a => if k < cntL (rkK N c) (rkK N c a) 6 then cntL (rkK N c) (rkK N c a) 6 - 1 else cntL (rkK N c) (rkK N c a) 6) (fun a ha => ?_) (fun a b ha hb e => ?_)
  · have h1 := hl a ha
    have h2 := hno a ha
    show (if k < cntL (rkK N c) (rkK N c a) 6 then cntL (rkK N c) (rkK N c a) 6 - 1 else cntL (rkK N c) (rkK N c a) 6) < 5
    split <;> omega
  · have e : (if k < cntL (rkK N c) (rkK N c a) 6 then cntL (rkK N c) (rkK N c a) 6 - 1 else cntL (rkK N c) (rkK N c a) 6) = (if k < cntL (rkK N c) (rkK N c b) 6 then cntL (rkK N c) (rkK N c b) 6 - 1 else cntL (rkK N c) (rkK N c b) 6) := e
    have h1 := hno a ha
    have h2 := hno b hb
    refine hne a b ha hb ?_
    by_cases y : k < cntL (rkK N c) (rkK N c a) 6
    · by_cases z : k < cntL (rkK N c) (rkK N c b) 6
      · rw [if_pos y, if_pos z] at e; omega
      · rw [if_pos y, if_neg z] at e; omega
    · by_cases z : k < cntL (rkK N c) (rkK N c b) 6
      · rw [if_neg y, if_pos z] at e; omega
      · rw [if_neg y, if_neg z] at e; omega
theorem lr_routeByWeight (hp : gPxs Γ) (H : lP bm Γ de h m N c t nx) {k a : Nat} (ha : a < 6) (hk : cntL (rkK N c) (rkK N c a) 6 = k) : pC Γ M_X9_routeByWeight [.ref m, .int (nI k)] h 30 (some (.int (nI a))) := by
  obtain ⟨V, F, B, G, hB, rfl, I, hn, hbm⟩ := H
  have ec := I.c_eq
  subst ec
  have e : rRk (F 0) (rc (F 0)) (nI k) 6 = nI a := by
    rw [rRk_at I (by omega) ha ((rk_cnt I hn ha).1.trans (by rw [hk])) 6 (Nat.le_refl _), if_pos ha]
  have e0 : rT (bI (¬ rRk (F 0) (rc (F 0)) (nI k) 6 = -1)) (nI 1) (nI 1) = 0 := lq_t (by rw [e]; exact nI_nm1 (by omega))
  have z := (fa_routeByWeight hp G hB (nI k)).1 e0
  rw [if_pos e0, e] at z
  exact z
end GLd2
