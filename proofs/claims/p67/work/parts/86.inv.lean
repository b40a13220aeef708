/-! WHAT HOLDS OF A ROW BETWEEN TWO CALLS -/
section GIv
/-- a letter that may stand in a row: next id nx, bags counted by g -/
def lqH (nx : Nat) (g : Nat → Nat) (x : lqT) : Prop := ∃ m cd w pr q, x.1 = nI m ∧ m < nx ∧ x.2.1 = nI cd ∧ cd < 10000 ∧ x.2.2.1 = nI w ∧ 1 ≤ w ∧ w ≤ 50 ∧ x.2.2.2.1 = nI pr ∧ pr ≤ 1 ∧ x.2.2.2.2.1 = nI q ∧ q < 3 ∧ (x.2.2.2.2.2.1 = -1 ∨ ∃ a b, a ≤ 5 ∧ b < g a ∧ x.2.2.2.2.2.1 = nI a ∧ x.2.2.2.2.2.2 = nI b)
theorem lqH.G {nx : Nat} {g : Nat → Nat} {x : lqT} (h : lqH nx g x) (hn : nx ≤ 100000) (hg : ∀ a, a ≤ 5 → g a ≤ 3) : lqG x := by
  obtain ⟨m, cd, w, pr, q, e1, h1, e2, h2, e3, h3, h3', e4, h4, e5, h5, h6⟩ := h
  refine ⟨m, cd, w, pr, q, e1, by omega, e2, h2, e3, h3, h3', e4, h4, e5, h5, ?_⟩
  rcases h6 with h6 | ⟨a, b, ha, hb, ea, eb⟩
  · exact Or.inl h6
  · exact Or.inr ⟨a, b, ha, by have := hg a ha; omega, ea, eb⟩
theorem lqH.mono {nx nx' : Nat} {g g' : Nat → Nat} {x : lqT} (h : lqH nx g x) (hn : nx ≤ nx') (hg : ∀ a, a ≤ 5 → g a ≤ g' a) : lqH nx' g' x := by
  obtain ⟨m, cd, w, pr, q, e1, h1, e2, h2, e3, h3, h3', e4, h4, e5, h5, h6⟩ := h
  refine ⟨m, cd, w, pr, q, e1, by omega, e2, h2, e3, h3, h3', e4, h4, e5, h5, ?_⟩
  rcases h6 with h6 | ⟨a, b, ha, hb, ea, eb⟩
  · exact Or.inl h6
  · exact Or.inr ⟨a, b, ha, by have := hg a ha; omega, ea, eb⟩
/-- what a letter weighs in a bag -/
def lqW (rt bg : Int32) (x : lqT) : Nat := if x.2.2.2.2.2.1 = rt ∧ (bg = -1 ∨ x.2.2.2.2.2.2 = bg) then x.2.2.1.toNatClampNeg else 0
def lqS (rt bg : Int32) (l : List lqT) : Nat := (l.map (lqW rt bg)).sum
theorem lqS_nil {rt bg : Int32} : lqS rt bg [] = 0 := rfl
theorem lqS_cons {rt bg : Int32} {x : lqT} {l : List lqT} : lqS rt bg (x :: l) = lqW rt bg x + lqS rt bg l := by
  unfold lqS
  rw [List.map_cons, List.sum_cons]
theorem lqS_app {rt bg : Int32} {l k : List lqT} : lqS rt bg (l ++ k) = lqS rt bg l + lqS rt bg k := by
  unfold lqS
  rw [List.map_append, List.sum_append]
theorem lqs_s {N : Nat → Int32} {c : Nat} : lqs N (c + 1) = lqs N c ++ [lqN N c] := by
  unfold lqs
  rw [List.range_succ, List.map_append]
  rfl
theorem lqS_le50 {rt bg : Int32} : ∀ {l : List lqT}, (∀ x ∈ l, lqG x) → lqS rt bg l ≤ 50 * l.length
  | [], _ => Nat.le_refl _
  | x :: l, h => by
    rw [lqS_cons, List.length_cons]
    have := lqS_le50 (rt := rt) (bg := bg) (l := l) (fun y hy => h y (List.mem_cons_of_mem _ hy))
    obtain ⟨m, cd, w, pr, q, e1, h1, e2, h2, e3, h3, h3', -⟩ := h x List.mem_cons_self
    have : lqW rt bg x ≤ 50 := by
      unfold lqW
      split
      · rw [e3, nI_clamp (by omega)]; exact h3'
      · omega
    omega
theorem rWt_S {N : Nat → Int32} {rt bg : Int32} : ∀ {c : Nat}, rLv1 N c → rWt N rt bg c = nI (lqS rt bg (lqs N c))
  | 0, _ => rfl
  | c + 1, h => by
    have ih := rWt_S (N := N) (rt := rt) (bg := bg) (c := c) (fun i hi => h i (by omega))
    obtain ⟨m, cd, w, pr, q, e1, h1, e2, h2, e3, h3, h3', -⟩ := h c (by omega)
    show rWt N rt bg c + _ = _
    rw [ih, lqs_s, lqS_app, lqS_cons, lqS_nil, Nat.add_zero]
    unfold lqW lqN
    dsimp only
    split
    · rw [e3, nI_clamp (by omega), nI_add]; rfl
    · rw [nI_add]
/-- what holds of the letters -/
def lqI (l : List lqT) (nx : Nat) (g : Nat → Nat) : Prop := (∀ x ∈ l, lqH nx g x) ∧ (l.map (·.1)).Pairwise (fun a b => a < b) ∧ ∀ a, a ≤ 5 → ∀ b, b < 3 → lqS (nI a) (nI b) l ≤ 150
theorem lqI.ok {l : List lqT} {nx : Nat} {g : Nat → Nat} (h : lqI l nx g) : ∀ x ∈ l, lqH nx g x := h.1
theorem lqI.as {l : List lqT} {nx : Nat} {g : Nat → Nat} (h : lqI l nx g) : (l.map (·.1)).Pairwise (fun a b => a < b) := h.2.1
theorem lqI.di {l : List lqT} {nx : Nat} {g : Nat → Nat} (h : lqI l nx g) : (l.map (·.1)).Nodup := h.2.1.imp (fun {a b} z e => by
  have z := Int32.lt_iff_toInt_lt.mp z
  rw [e] at z
  omega)
theorem lqI.wt {l : List lqT} {nx : Nat} {g : Nat → Nat} (h : lqI l nx g) : ∀ a, a ≤ 5 → ∀ b, b < 3 → lqS (nI a) (nI b) l ≤ 150 := h.2.2
theorem lqI.uq {N : Nat → Int32} {c nx : Nat} {g : Nat → Nat} (h : lqI (lqs N c) nx g) : rUq N c := by
  intro i j hij hj e
  have hi : ((lqs N c).map (·.1))[i]? = some (N (62 + 7 * i)) := by rw [List.getElem?_map, lqs_get (by omega)]; rfl
  have hj' : ((lqs N c).map (·.1))[j]? = some (N (62 + 7 * j)) := by rw [List.getElem?_map, lqs_get hj]; rfl
  rw [e] at hi
  obtain ⟨a1, b1⟩ := List.getElem?_eq_some_iff.mp hi
  obtain ⟨a2, b2⟩ := List.getElem?_eq_some_iff.mp hj'
  exact (List.pairwise_iff_getElem.mp h.di) i j a1 a2 hij (by rw [b1, b2])
theorem lqI.app {l : List lqT} {nx : Nat} {g : Nat → Nat} (h : lqI l nx g) (hn : nx < 100000) {x : lqT} (hx : lqH (nx + 1) g x) (h1 : x.1 = nI nx) (hr : x.2.2.2.2.2.1 = -1) : lqI (l ++ [x]) (nx + 1) g := by
  refine ⟨fun y hy => ?_, ?_, fun a ha b hb => ?_⟩
  · rcases List.mem_append.mp hy with z | z
    · exact (h.ok y z).mono (by omega) (fun _ _ => Nat.le_refl _)
    · rw [List.mem_singleton.mp z]; exact hx
  · rw [List.map_append]
    refine List.pairwise_append.mpr ⟨h.as, List.pairwise_singleton _ _, fun u hu v hv => ?_⟩
    obtain ⟨y, hy, rfl⟩ := List.mem_map.mp hu
    obtain ⟨m, cd, w, pr, q, e1, h1', -⟩ := h.ok y hy
    have hv' : v = x.1 := List.mem_singleton.mp hv
    rw [hv', h1, e1]
    exact (nI_ltI (by omega) (by omega)).mpr h1'
  · rw [lqS_app, lqS_cons, lqS_nil]
    have : lqW (nI a) (nI b) x = 0 := by
      unfold lqW
      rw [if_neg (fun z => nI_nm1 (n := a) (by omega) (by rw [← z.1, hr]))]
    have := h.wt a ha b hb
    omega
theorem lqS_set {rt bg : Int32} : ∀ {l : List lqT} {p : Nat} {x y : lqT}, l[p]? = some x → lqS rt bg (l.set p y) + lqW rt bg x = lqS rt bg l + lqW rt bg y
  | [], p, x, y, h => by cases h
  | z :: l, 0, x, y, h => by
    cases h
    rw [List.set_cons_zero, lqS_cons, lqS_cons]
    omega
  | z :: l, p + 1, x, y, h => by
    rw [List.set_cons_succ, lqS_cons, lqS_cons]
    have := lqS_set (rt := rt) (bg := bg) (l := l) (p := p) (x := x) (y := y) h
    omega
theorem map_set_id {l : List lqT} {p : Nat} {x y : lqT} (h : l[p]? = some x) (e : y.1 = x.1) : (l.set p y).map (·.1) = l.map (·.1) := by
  refine List.ext_getElem? (fun i => ?_)
  rw [List.getElem?_map, List.getElem?_map]
  by_cases z : p = i
  · subst z
    rw [List.getElem?_set_self (List.getElem?_eq_some_iff.mp h).1, h]
    exact congrArg some e
  · rw [List.getElem?_set_ne z]
theorem lqI.set {l : List lqT} {nx p : Nat} {g g' : Nat → Nat} (h : lqI l nx g) {x y : lqT} (hp : l[p]? = some x) (e : y.1 = x.1) (hg : ∀ a, a ≤ 5 → g a ≤ g' a) (hy : lqH nx g' y) (hw : ∀ a, a ≤ 5 → ∀ b, b < 3 → lqS (nI a) (nI b) l + lqW (nI a) (nI b) y ≤ 150 + lqW (nI a) (nI b) x) : lqI (l.set p y) nx g' := by
  refine ⟨fun z hz => ?_, by rw [map_set_id hp e]; exact h.as, fun a ha b hb => ?_⟩
  · rcases List.mem_or_eq_of_mem_set hz with m | m
    · exact (h.ok z m).mono (Nat.le_refl _) hg
    · rw [m]; exact hy
  · have := lqS_set (rt := nI a) (bg := nI b) (y := y) hp
    have := hw a ha b hb
    omega
theorem fm_sub {f : lqT → Option lqT} (hf : ∀ x y, f x = some y → y.1 = x.1) : ∀ l : List lqT, ((l.filterMap f).map (·.1)).Sublist (l.map (·.1))
  | [] => List.Sublist.slnil
  | x :: l => by
    cases hx : f x with
    | none => rw [List.filterMap_cons_none hx, List.map_cons]; exact (fm_sub hf l).cons _
    | some y => rw [List.filterMap_cons_some hx, List.map_cons, List.map_cons, hf x y hx]; exact (fm_sub hf l).cons₂ _
theorem lqS_fm {rt bg : Int32} {f : lqT → Option lqT} (hf : ∀ x y, f x = some y → lqW rt bg y ≤ lqW rt bg x) : ∀ l : List lqT, lqS rt bg (l.filterMap f) ≤ lqS rt bg l
  | [] => Nat.le_refl _
  | x :: l => by
    have ih := lqS_fm hf l
    cases hx : f x with
    | none => rw [List.filterMap_cons_none hx, lqS_cons]; omega
    | some y =>
      rw [List.filterMap_cons_some hx, lqS_cons, lqS_cons]
      have := hf x y hx
      omega
theorem lqF_some {N0 : Nat → Int32} {rt : Int32} {t : Nat} {x y : lqT} (h : lqF N0 rt t x = some y) : (¬ x.2.2.2.2.2.1 = rt ∧ y = x) ∨ (x.2.2.2.2.2.1 = rt ∧ ¬ x.2.2.2.2.1 + nI 1 = nI 3 ∧ y = lqB x) := by
  unfold lqF at h
  split at h
  · next a =>
    split at h
    · cases h
    · split at h
      · cases h
      · next c => cases h; exact Or.inr ⟨a, c, rfl⟩
  · next a => cases h; exact Or.inl ⟨a, rfl⟩
theorem lqI.dep {l : List lqT} {nx r t : Nat} {g : Nat → Nat} {N0 : Nat → Int32} (hr : r ≤ 5) (h : lqI l nx g) : lqI (l.filterMap (lqF N0 (nI r) t)) nx (fun a => if a = r then 0 else g a) := by
  refine ⟨fun y hy => ?_, ?_, fun a ha b hb => ?_⟩
  · obtain ⟨x, hx, e⟩ := List.mem_filterMap.mp hy
    obtain ⟨m, cd, w, pr, q, e1, h1, e2, h2, e3, h3, h3', e4, h4, e5, h5, h6⟩ := h.ok x hx
    rcases lqF_some e with ⟨a, rfl⟩ | ⟨a, b, rfl⟩
    · refine ⟨m, cd, w, pr, q, e1, h1, e2, h2, e3, h3, h3', e4, h4, e5, h5, ?_⟩
      rcases h6 with z | ⟨a', b', ha, hb, ea, eb⟩
      · exact Or.inl z
      · refine Or.inr ⟨a', b', ha, ?_, ea, eb⟩
        show b' < if a' = r then 0 else g a'
        rw [if_neg (fun z : a' = r => a (by rw [ea, z]))]
        exact hb
    · refine ⟨m, cd, w, pr, q + 1, e1, h1, e2, h2, e3, h3, h3', e4, h4, ?_, ?_, Or.inl rfl⟩
      · show x.2.2.2.2.1 + nI 1 = _
        rw [e5, nI_add]
      · have : ¬ q + 1 = 3 := fun y => b (by rw [e5, nI_add, y])
        omega
  · refine List.Pairwise.sublist (fm_sub (fun x y e => ?_) l) h.as
    rcases lqF_some e with ⟨-, rfl⟩ | ⟨-, -, rfl⟩ <;> rfl
  · refine Nat.le_trans (lqS_fm (fun x y e => ?_) l) (h.wt a ha b hb)
    rcases lqF_some e with ⟨-, rfl⟩ | ⟨-, -, rfl⟩
    · exact Nat.le_refl _
    · have : lqW (nI a) (nI b) (lqB x) = 0 := by
        unfold lqW
        rw [if_neg (fun z => nI_nm1 (n := a) (by omega) z.1.symm)]
      omega
theorem lqF_len {N0 : Nat → Int32} {rt : Int32} {t : Nat} : ∀ l : List lqT, l.length = (l.filterMap (lqF N0 rt t)).length + l.countP (lqD N0 rt t) + l.countP (lqX N0 rt t)
  | [] => rfl
  | x :: l => by
    have ih := lqF_len (N0 := N0) (rt := rt) (t := t) l
    by_cases a : x.2.2.2.2.2.1 = rt
    · by_cases b : rRoute N0 x.2.1 t = rt
      · have f1 : lqF N0 rt t x = none := by unfold lqF; rw [if_pos a, if_pos b]
        have f2 : lqD N0 rt t x = true := decide_eq_true ⟨a, b⟩
        have f3 : ¬ lqX N0 rt t x = true := fun z => (of_decide_eq_true z).1.2 b
        rw [List.filterMap_cons_none f1, List.countP_cons_of_pos f2, List.countP_cons_of_neg f3, List.length_cons]
        omega
      · have f2 : ¬ lqD N0 rt t x = true := fun z => b (of_decide_eq_true z).2
        by_cases d : x.2.2.2.2.1 + nI 1 = nI 3
        · have f1 : lqF N0 rt t x = none := by unfold lqF; rw [if_pos a, if_neg b, if_pos d]
          have f3 : lqX N0 rt t x = true := decide_eq_true ⟨⟨a, b⟩, d⟩
          rw [List.filterMap_cons_none f1, List.countP_cons_of_neg f2, List.countP_cons_of_pos f3, List.length_cons]
          omega
        · have f1 : lqF N0 rt t x = some (lqB x) := by unfold lqF; rw [if_pos a, if_neg b, if_neg d]
          have f3 : ¬ lqX N0 rt t x = true := fun z => d (of_decide_eq_true z).2
          rw [List.filterMap_cons_some f1, List.countP_cons_of_neg f2, List.countP_cons_of_neg f3, List.length_cons, List.length_cons]
          omega
    · have f1 : lqF N0 rt t x = some x := by unfold lqF; rw [if_neg a]
      have f2 : ¬ lqD N0 rt t x = true := fun z => a (of_decide_eq_true z).1
      have f3 : ¬ lqX N0 rt t x = true := fun z => a (of_decide_eq_true z).1.1
      rw [List.filterMap_cons_some f1, List.countP_cons_of_neg f2, List.countP_cons_of_neg f3, List.length_cons, List.length_cons]
      omega
end GIv
