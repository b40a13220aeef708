/-! ... AND EACH CHANGE KEEPS IT -/
section GIv2
theorem rFst_p {p : Nat → Bool} : ∀ {b i : Nat}, rFst p b = some i → i < b ∧ p i = true
  | 0, i, h => by cases h
  | b + 1, i, h => by
    unfold rFst at h
    split at h
    · next k hk =>
      cases h
      have := rFst_p hk
      exact ⟨by omega, this.2⟩
    · split at h
      · next hp => cases h; exact ⟨by omega, hp⟩
      · cases h
theorem lqI.cg {l : List lqT} {nx : Nat} {g g' : Nat → Nat} (h : lqI l nx g) (e : ∀ a, a ≤ 5 → g' a = g a) : lqI l nx g' :=
  ⟨fun x hx => (h.ok x hx).mono (Nat.le_refl _) (fun a ha => by rw [e a ha]; exact Nat.le_refl _), h.as, h.wt⟩
/-- bags of a route -/
def rg (N : Nat → Int32) (a : Nat) : Nat := (N (8 + 3 * a + 2)).toNatClampNeg
/-- the whole of it: c letters, t prefixes, next id nx -/
def rIV (N : Nat → Int32) (c t nx : Nat) : Prop :=
  (c ≤ 20 ∧ N 3 = nI c) ∧ (t ≤ 12 ∧ N 4 = nI t) ∧ (∃ hh, hh < 24 ∧ N 0 = nI hh) ∧ (N 2 = nI nx ∧ ∃ dl dd, N 5 = nI dl ∧ N 6 = nI dd ∧ nx = c + dl + dd) ∧
  (∀ r, r ≤ 5 → ∃ a b g, a ≤ 24 ∧ b ≤ 23 ∧ g ≤ 3 ∧ N (8 + 3 * r) = nI a ∧ N (8 + 3 * r + 1) = nI b ∧ N (8 + 3 * r + 2) = nI g) ∧ rUp N t ∧ rPv N t ∧ lqI (lqs N c) nx (rg N)
variable {N : Nat → Int32} {c t nx : Nat}
theorem rIV.hc (h : rIV N c t nx) : c ≤ 20 := h.1.1
theorem rIV.h3 (h : rIV N c t nx) : N 3 = nI c := h.1.2
theorem rIV.ht (h : rIV N c t nx) : t ≤ 12 := h.2.1.1
theorem rIV.h4 (h : rIV N c t nx) : N 4 = nI t := h.2.1.2
theorem rIV.hh (h : rIV N c t nx) : ∃ hh, hh < 24 ∧ N 0 = nI hh := h.2.2.1
theorem rIV.n2 (h : rIV N c t nx) : N 2 = nI nx := h.2.2.2.1.1
theorem rIV.sum (h : rIV N c t nx) : ∃ dl dd, N 5 = nI dl ∧ N 6 = nI dd ∧ nx = c + dl + dd := h.2.2.2.1.2
theorem rIV.rt (h : rIV N c t nx) : ∀ r, r ≤ 5 → ∃ a b g, a ≤ 24 ∧ b ≤ 23 ∧ g ≤ 3 ∧ N (8 + 3 * r) = nI a ∧ N (8 + 3 * r + 1) = nI b ∧ N (8 + 3 * r + 2) = nI g := h.2.2.2.2.1
theorem rIV.up (h : rIV N c t nx) : rUp N t := h.2.2.2.2.2.1
theorem rIV.pv (h : rIV N c t nx) : rPv N t := h.2.2.2.2.2.2.1
theorem rIV.li (h : rIV N c t nx) : lqI (lqs N c) nx (rg N) := h.2.2.2.2.2.2.2
theorem rIV.OK (h : rIV N c t nx) : rOK N := fun r hr => by
  obtain ⟨a, b, g, -, -, hg, -, -, e⟩ := h.rt r hr
  exact ⟨g, hg, e⟩
theorem rIV.g3 (h : rIV N c t nx) {a : Nat} (ha : a ≤ 5) : rg N a ≤ 3 ∧ N (8 + 3 * a + 2) = nI (rg N a) := by
  obtain ⟨a', b, g, -, -, hg, -, -, e⟩ := h.rt a ha
  unfold rg
  rw [e, nI_clamp (by omega)]
  exact ⟨hg, rfl⟩
theorem rIV.uq (h : rIV N c t nx) : rUq N c := h.li.uq
theorem rIV.lv (h : rIV N c t nx) (hn : nx ≤ 100000) : rLv1 N c := lqG_iff.mpr (fun x hx => (h.li.ok x hx).G hn (fun a ha => (h.g3 ha).1))
theorem rIV.gd (h : rIV N c t nx) : rGd N := ⟨⟨c, h.hc, h.h3⟩, ⟨t, h.ht, h.h4⟩, h.OK⟩
theorem rIV.c_eq (h : rIV N c t nx) : rc N = c := by unfold rc; rw [h.h3, nI_clamp (by have := h.hc; omega)]
theorem rIV.t_eq (h : rIV N c t nx) : rtt N = t := by unfold rtt; rw [h.h4, nI_clamp (by have := h.ht; omega)]
theorem rIV.nx_le (h : rIV N c t nx) : c ≤ nx := by
  obtain ⟨dl, dd, -, -, e⟩ := h.sum
  omega
theorem rUp_cg {N' : Nat → Int32} (ht : t ≤ 12) (e : ∀ q, 26 ≤ q → q < 62 → N q = N' q) (h : rUp N t) : rUp N' t := by
  intro i j hij hj
  rw [← e (26 + 3 * i) (by omega) (by omega), ← e (26 + 3 * j) (by omega) (by omega), ← e (26 + 3 * i + 1) (by omega) (by omega), ← e (26 + 3 * j + 1) (by omega) (by omega)]
  exact h i j hij hj
/-- a change that touches the letters only -/
theorem rIV.let_ {N' : Nat → Int32} (h : rIV N c t nx) (e : ∀ q, q < 62 → N' q = N q) (hl : lqI (lqs N' c) nx (rg N)) : rIV N' c t nx := by
  have ht := h.ht
  refine ⟨⟨h.hc, by rw [e 3 (by omega)]; exact h.h3⟩, ⟨ht, by rw [e 4 (by omega)]; exact h.h4⟩, by rw [e 0 (by omega)]; exact h.hh, ⟨by rw [e 2 (by omega)]; exact h.n2, by rw [e 5 (by omega), e 6 (by omega)]; exact h.sum⟩, fun r hr => by rw [e (8 + 3 * r) (by omega), e (8 + 3 * r + 1) (by omega), e (8 + 3 * r + 2) (by omega)]; exact h.rt r hr, rUp_cg ht (fun q _ q2 => (e q q2).symm) h.up, rPv_cg ht (fun q _ q2 => (e q q2).symm) h.pv, ?_⟩
  refine hl.cg (fun a ha => ?_)
  unfold rg
  rw [e _ (by omega)]
theorem rIV.acc (h : rIV N c t nx) (hc : c < 20) (hn : nx < 100000) {cd w pr : Nat} (h1 : cd < 10000) (h2 : 1 ≤ w) (h3 : w ≤ 50) (h4 : pr ≤ 1) : rIV (rAcc N (nI cd) (nI w) (nI pr) c) (c + 1) t (nx + 1) := by
  have ht := h.ht
  have k : ∀ q, q < 62 → q ≠ 2 → q ≠ 3 → rAcc N (nI cd) (nI w) (nI pr) c q = N q := fun q hq q2 q3 => by
    unfold rAcc
    rw [pk_un q2, pk_un q3, pk_un (by omega), pk_un (by omega), pk_un (by omega), pk_un (by omega), pk_un (by omega), pk_un (by omega), pk_un (by omega)]
  have e2 : rAcc N (nI cd) (nI w) (nI pr) c 2 = nI (nx + 1) := by
    unfold rAcc
    rw [pk_us, h.n2, nI_add]
  have e3 : rAcc N (nI cd) (nI w) (nI pr) c 3 = nI (c + 1) := by
    unfold rAcc
    rw [pk_un (by omega), pk_us, h.h3, nI_add]
  have el : lqs (rAcc N (nI cd) (nI w) (nI pr) c) (c + 1) = lqs N c ++ [(nI nx, nI cd, nI w, nI pr, nI 0, -1, nI 0)] := by
    rw [lqs_s]
    congr 1
    · refine lqs_cg (fun q q1 q2 => ?_)
      unfold rAcc
      rw [pk_un (by omega), pk_un (by omega), pk_un (by omega), pk_un (by omega), pk_un (by omega), pk_un (by omega), pk_un (by omega), pk_un (by omega), pk_un (by omega)]
    · unfold lqN rAcc
      rw [pk_un (by omega), pk_un (by omega), pk_un (by omega), pk_un (by omega), pk_un (by omega), pk_un (by omega), pk_un (by omega), pk_un (by omega), pk_us]
      rw [pk_un (by omega), pk_un (by omega), pk_un (by omega), pk_un (by omega), pk_un (by omega), pk_un (by omega), pk_un (by omega), pk_us]
      rw [pk_un (by omega), pk_un (by omega), pk_un (by omega), pk_un (by omega), pk_un (by omega), pk_un (by omega), pk_us]
      rw [pk_un (by omega), pk_un (by omega), pk_un (by omega), pk_un (by omega), pk_un (by omega), pk_us]
      rw [pk_un (by omega), pk_un (by omega), pk_un (by omega), pk_un (by omega), pk_us]
      rw [pk_un (by omega), pk_un (by omega), pk_un (by omega), pk_us]
      rw [pk_un (by omega), pk_un (by omega), pk_us, h.n2]
  refine ⟨⟨by omega, e3⟩, ⟨ht, by rw [k 4 (by omega) (by omega) (by omega)]; exact h.h4⟩, by rw [k 0 (by omega) (by omega) (by omega)]; exact h.hh, ⟨e2, ?_⟩, fun r hr => by rw [k (8 + 3 * r) (by omega) (by omega) (by omega), k (8 + 3 * r + 1) (by omega) (by omega) (by omega), k (8 + 3 * r + 2) (by omega) (by omega) (by omega)]; exact h.rt r hr, rUp_cg ht (fun q q1 q2 => (k q q2 (by omega) (by omega)).symm) h.up, rPv_cg ht (fun q q1 q2 => (k q q2 (by omega) (by omega)).symm) h.pv, ?_⟩
  · rw [k 5 (by omega) (by omega) (by omega), k 6 (by omega) (by omega) (by omega)]
    obtain ⟨dl, dd, e5, e6, e⟩ := h.sum
    exact ⟨dl, dd, e5, e6, by omega⟩
  · rw [el]
    refine (h.li.app hn ⟨nx, cd, w, pr, 0, rfl, by omega, rfl, h1, rfl, h2, h3, rfl, h4, rfl, by decide, Or.inl rfl⟩ rfl rfl).cg (fun a ha => ?_)
    unfold rg
    rw [k _ (by omega) (by omega) (by omega)]
theorem rFind_ne {dg ln : Int32} : ∀ {t : Nat}, t ≤ 100 → rFind N dg ln t = -1 → ∀ j, j < t → ¬ (N (26 + 3 * j) = dg ∧ N (26 + 3 * j + 1) = ln)
  | 0, _, _, j, hj => by omega
  | t + 1, ht, h, j, hj => by
    unfold rFind at h
    by_cases y : N (26 + 3 * t) = dg ∧ N (26 + 3 * t + 1) = ln
    · rw [if_pos y] at h
      exact absurd h (nI_nm1 (by omega))
    · rw [if_neg y] at h
      by_cases z : j = t
      · rw [z]; exact y
      · exact rFind_ne (by omega) h j (by omega)
theorem rIV.add (h : rIV N c t nx) (ht : t < 12) {dg ln rt : Nat} (h1 : 1 ≤ ln) (h2 : ln ≤ 4) (h3 : dg < 10 ^ ln) (h4 : rt ≤ 5) (hf : rFind N (nI dg) (nI ln) t = -1) : rIV (rAddN N (nI dg) (nI ln) (nI rt) t) c (t + 1) nx := by
  have k : ∀ q, q ≠ 4 → (q < 26 + 3 * t ∨ 62 ≤ q) → rAddN N (nI dg) (nI ln) (nI rt) t q = N q := fun q q4 qo => by
    unfold rAddN
    rw [pk_un q4, pk_un (by omega), pk_un (by omega), pk_un (by omega)]
  have k0 : rAddN N (nI dg) (nI ln) (nI rt) t (26 + 3 * t) = nI dg := by
    unfold rAddN
    rw [pk_un (by omega), pk_un (by omega), pk_un (by omega), pk_us]
  have k1 : rAddN N (nI dg) (nI ln) (nI rt) t (26 + 3 * t + 1) = nI ln := by
    unfold rAddN
    rw [pk_un (by omega), pk_un (by omega), pk_us]
  have k2 : rAddN N (nI dg) (nI ln) (nI rt) t (26 + 3 * t + 2) = nI rt := by
    unfold rAddN
    rw [pk_un (by omega), pk_us]
  refine ⟨⟨h.hc, by rw [k 3 (by omega) (by omega)]; exact h.h3⟩, ⟨ht, by unfold rAddN; rw [pk_us, h.h4, nI_add]⟩, by rw [k 0 (by omega) (by omega)]; exact h.hh, ⟨by rw [k 2 (by omega) (by omega)]; exact h.n2, by rw [k 5 (by omega) (by omega), k 6 (by omega) (by omega)]; exact h.sum⟩, fun r hr => by rw [k (8 + 3 * r) (by omega) (by omega), k (8 + 3 * r + 1) (by omega) (by omega), k (8 + 3 * r + 2) (by omega) (by omega)]; exact h.rt r hr, ?_, ?_, ?_⟩
  · intro i j hij hj
    rw [k (26 + 3 * i) (by omega) (by omega), k (26 + 3 * i + 1) (by omega) (by omega)]
    by_cases y : j = t
    · subst y
      rw [k0, k1]
      exact rFind_ne (by omega) hf i hij
    · rw [k (26 + 3 * j) (by omega) (by omega), k (26 + 3 * j + 1) (by omega) (by omega)]
      exact h.up i j hij (by omega)
  · intro j hj
    by_cases y : j = t
    · subst y
      rw [k0, k1, k2]
      exact ⟨dg, ln, rt, rfl, rfl, rfl, h1, h2, h3, h4⟩
    · rw [k (26 + 3 * j) (by omega) (by omega), k (26 + 3 * j + 1) (by omega) (by omega), k (26 + 3 * j + 2) (by omega) (by omega)]
      exact h.pv j (by omega)
  · rw [lqs_cg (N' := N) (fun q q1 q2 => k q (by omega) (by omega))]
    refine h.li.cg (fun a ha => ?_)
    unfold rg
    rw [k _ (by omega) (by omega)]
theorem rIV.rm (h : rIV N c t nx) {p : Nat} (hp : p < t) : rIV (rRm N p) c (t - 1) nx := by
  have ht := h.ht
  have k : ∀ q, q ≠ 4 → (q < 26 + 3 * p ∨ 62 ≤ q) → rRm N p q = N q := fun q q4 qo => by
    unfold rRm rShf
    rw [pk_un q4, if_neg (by omega)]
  have ks : ∀ q, 26 + 3 * p ≤ q → q < 59 → rRm N p q = N (q + 3) := fun q q1 q2 => by
    unfold rRm rShf
    rw [pk_un (by omega), if_pos ⟨q1, q2⟩]
  have kj : ∀ j, j < t - 1 → ∃ i, i < t ∧ (∀ d, d < 3 → rRm N p (26 + 3 * j + d) = N (26 + 3 * i + d)) ∧ (j < p → i = j) ∧ (¬ j < p → i = j + 1) := by
    intro j hj
    by_cases y : j < p
    · exact ⟨j, by omega, fun d hd => k _ (by omega) (by omega), fun _ => rfl, fun z => absurd y z⟩
    · exact ⟨j + 1, by omega, fun d hd => by rw [ks _ (by omega) (by omega)]; congr 1; omega, fun z => absurd z y, fun _ => rfl⟩
  refine ⟨⟨h.hc, by rw [k 3 (by omega) (by omega)]; exact h.h3⟩, ⟨by omega, ?_⟩, by rw [k 0 (by omega) (by omega)]; exact h.hh, ⟨by rw [k 2 (by omega) (by omega)]; exact h.n2, by rw [k 5 (by omega) (by omega), k 6 (by omega) (by omega)]; exact h.sum⟩, fun r hr => by rw [k (8 + 3 * r) (by omega) (by omega), k (8 + 3 * r + 1) (by omega) (by omega), k (8 + 3 * r + 2) (by omega) (by omega)]; exact h.rt r hr, ?_, ?_, ?_⟩
  · unfold rRm
    rw [pk_us, h.h4, nI_subN (by omega)]
  · intro i j hij hj
    obtain ⟨i', hi', ei, a1, a2⟩ := kj i (by omega)
    obtain ⟨j', hj', ej, b1, b2⟩ := kj j hj
    have ei0 := ei 0 (by omega)
    have ej0 := ej 0 (by omega)
    rw [Nat.add_zero, Nat.add_zero] at ei0 ej0
    rw [ei0, ej0, ei 1 (by omega), ej 1 (by omega)]
    refine h.up i' j' ?_ hj'
    by_cases y : i < p
    · rw [a1 y]
      by_cases z : j < p
      · rw [b1 z]; exact hij
      · rw [b2 z]; omega
    · rw [a2 y, b2 (by omega)]; omega
  · intro j hj
    obtain ⟨i, hi, e, -, -⟩ := kj j hj
    have e0 := e 0 (by omega)
    rw [Nat.add_zero, Nat.add_zero] at e0
    rw [e0, e 1 (by omega), e 2 (by omega)]
    exact h.pv i hi
  · rw [lqs_cg (N' := N) (fun q q1 q2 => k q (by omega) (by omega))]
    refine h.li.cg (fun a ha => ?_)
    unfold rg
    rw [k _ (by omega) (by omega)]
theorem lqs_set {N' : Nat → Int32} {p : Nat} {y : lqT} (hp : p < c) (hy : lqN N' p = y) (e : ∀ q, 62 ≤ q → (q < 62 + 7 * p ∨ 62 + 7 * p + 7 ≤ q) → N' q = N q) : lqs N' c = (lqs N c).set p y := by
  refine lqs_of (by rw [List.length_set, lqs_len]) (fun i hi => ?_)
  by_cases z : p = i
  · subst z
    rw [List.getElem?_set_self (by rw [lqs_len]; exact hp), hy]
  · rw [List.getElem?_set_ne z, lqs_get hi]
    exact congrArg some (lqN_cg (fun k hk => (e _ (by omega) (by omega)).symm))
theorem rIV.pull (h : rIV N c t nx) {k : Nat} (hk : k < c) : rIV (upd N (62 + 7 * k + 5) (-1)) c t nx := by
  refine h.let_ (fun q hq => pk_un (by omega)) ?_
  have el : lqs (upd N (62 + 7 * k + 5) (-1)) c = (lqs N c).set k (N (62 + 7 * k), N (62 + 7 * k + 1), N (62 + 7 * k + 2), N (62 + 7 * k + 3), N (62 + 7 * k + 4), -1, N (62 + 7 * k + 6)) := by
    refine lqs_set hk ?_ (fun q q1 q2 => pk_un (by omega))
    unfold lqN
    rw [pk_un (by omega), pk_un (by omega), pk_un (by omega), pk_un (by omega), pk_un (by omega), pk_us, pk_un (by omega)]
  rw [el]
  obtain ⟨m, cd, w, pr, q, e1, h1, e2, h2, e3, h3, h3', e4, h4, e5, h5, h6⟩ := h.li.ok _ (List.mem_of_getElem? (lqs_get hk))
  refine h.li.set (lqs_get hk) rfl (fun _ _ => Nat.le_refl _) ⟨m, cd, w, pr, q, e1, h1, e2, h2, e3, h3, h3', e4, h4, e5, h5, Or.inl rfl⟩ (fun a ha b hb => ?_)
  have := h.li.wt a ha b hb
  have : lqW (nI a) (nI b) (N (62 + 7 * k), N (62 + 7 * k + 1), N (62 + 7 * k + 2), N (62 + 7 * k + 3), N (62 + 7 * k + 4), -1, N (62 + 7 * k + 6)) = 0 := by
    unfold lqW
    exact if_neg (fun z => nI_nm1 (n := a) (by omega) z.1.symm)
  omega
theorem rIV.sets (h : rIV N c t nx) {r k x : Nat} (hr : r ≤ 5) (hk : k < 2) (hx : x ≤ 24 - k) : rIV (upd N (8 + 3 * r + k) (nI x)) c t nx := by
  have ht := h.ht
  have e : ∀ q, q ≠ 8 + 3 * r + k → upd N (8 + 3 * r + k) (nI x) q = N q := fun q hq => pk_un hq
  refine ⟨⟨h.hc, by rw [e 3 (by omega)]; exact h.h3⟩, ⟨ht, by rw [e 4 (by omega)]; exact h.h4⟩, by rw [e 0 (by omega)]; exact h.hh, ⟨by rw [e 2 (by omega)]; exact h.n2, by rw [e 5 (by omega), e 6 (by omega)]; exact h.sum⟩, fun r' hr' => ?_, rUp_cg ht (fun q q1 q2 => (e q (by omega)).symm) h.up, rPv_cg ht (fun q q1 q2 => (e q (by omega)).symm) h.pv, ?_⟩
  · obtain ⟨a, b, g, ha, hb, hg, ea, eb, eg⟩ := h.rt r' hr'
    rw [e (8 + 3 * r' + 2) (by omega)]
    by_cases y : r' = r
    · subst y
      have k2 : k = 0 ∨ k = 1 := by omega
      rcases k2 with rfl | rfl
      · refine ⟨x, b, g, by omega, hb, hg, pk_us, ?_, eg⟩
        rw [e (8 + 3 * r' + 1) (by omega)]; exact eb
      · refine ⟨a, x, g, ha, by omega, hg, ?_, pk_us, eg⟩
        rw [e (8 + 3 * r') (by omega)]; exact ea
    · refine ⟨a, b, g, ha, hb, hg, ?_, ?_, eg⟩
      · rw [e (8 + 3 * r') (by omega)]; exact ea
      · rw [e (8 + 3 * r' + 1) (by omega)]; exact eb
  · rw [lqs_cg (N' := N) (fun q q1 q2 => e q (by omega))]
    refine h.li.cg (fun a ha => ?_)
    unfold rg
    rw [e _ (by omega)]
end GIv2
