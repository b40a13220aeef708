/-! THE BAGS ARE SOUND -/
section GSn
variable {N : Nat → Int32} {c t nx : Nat}
/-- the bags below B together -/
def lqB9 (r : Nat) (l : List lqT) : Nat → Nat
  | 0 => 0
  | B + 1 => lqB9 r l B + lqS (nI r) (nI B) l
theorem lqB9_nil {r : Nat} : ∀ B, lqB9 r [] B = 0
  | 0 => rfl
  | B + 1 => by
    show lqB9 r [] B + lqS (nI r) (nI B) [] = 0
    rw [lqB9_nil B, lqS_nil]
theorem lqB9_cons {r : Nat} {x : lqT} {l : List lqT} : ∀ B, lqB9 r (x :: l) B = lqB9 r [x] B + lqB9 r l B
  | 0 => rfl
  | B + 1 => by
    show lqB9 r (x :: l) B + lqS (nI r) (nI B) (x :: l) = lqB9 r [x] B + lqS (nI r) (nI B) [x] + (lqB9 r l B + lqS (nI r) (nI B) l)
    rw [lqB9_cons B, lqS_cons, lqS_cons, lqS_nil]
    omega
theorem lqB9_one {r : Nat} {x : lqT} {b : Nat} (hb : b < 1000) (e : x.2.2.2.2.2.1 = nI r) (eb : x.2.2.2.2.2.2 = nI b) : ∀ B, B ≤ 1000 → lqB9 r [x] B = if b < B then x.2.2.1.toNatClampNeg else 0
  | 0, _ => rfl
  | B + 1, hB => by
    show lqB9 r [x] B + lqS (nI r) (nI B) [x] = _
    rw [lqB9_one hb e eb B (by omega), lqS_cons, lqS_nil, Nat.add_zero]
    unfold lqW
    by_cases y : b = B
    · subst y
      rw [if_neg (Nat.lt_irrefl _), if_pos ⟨e, Or.inr eb⟩, if_pos (Nat.lt_succ_self _), Nat.zero_add]
    · have : ¬ (x.2.2.2.2.2.1 = nI r ∧ (nI B = -1 ∨ x.2.2.2.2.2.2 = nI B)) := fun z => by
        rcases z.2 with w | w
        · exact nI_nm1 (n := B) (by omega) w
        · rw [eb] at w
          exact y ((nI_eq (by omega) (by omega)).mp w)
      rw [if_neg this, Nat.add_zero]
      by_cases z : b < B
      · rw [if_pos z, if_pos (by omega)]
      · rw [if_neg z, if_neg (by omega)]
theorem lqB9_off {r : Nat} {x : lqT} (e : ¬ x.2.2.2.2.2.1 = nI r) : ∀ B, lqB9 r [x] B = 0
  | 0 => rfl
  | B + 1 => by
    show lqB9 r [x] B + lqS (nI r) (nI B) [x] = 0
    rw [lqB9_off e B, lqS_cons, lqS_nil]
    unfold lqW
    rw [if_neg (fun z => e z.1)]
theorem lqB9_all {g : Nat → Nat} {r : Nat} (hr : r ≤ 5) (hg : ∀ a, a ≤ 5 → g a ≤ 3) : ∀ {l : List lqT}, (∀ x ∈ l, lqH nx g x) → lqS (nI r) (-1) l = lqB9 r l (g r)
  | [], _ => by rw [lqB9_nil, lqS_nil]
  | x :: l, h => by
    rw [lqS_cons, lqB9_cons, lqB9_all hr hg (fun y hy => h y (List.mem_cons_of_mem _ hy))]
    congr 1
    obtain ⟨m, cd, w, pr, q, e1, h1, e2, h2, e3, h3, h3', e4, h4, e5, h5, h6⟩ := h x List.mem_cons_self
    unfold lqW
    by_cases y : x.2.2.2.2.2.1 = nI r
    · rw [if_pos ⟨y, Or.inl rfl⟩]
      rcases h6 with z | ⟨a, b, ha, hb, ea, eb⟩
      · rw [z] at y
        exact absurd y.symm (nI_nm1 (by omega))
      · have ear := (nI_eq (by omega) (by omega)).mp (ea.symm.trans y)
        subst ear
        have := hg a ha
        rw [lqB9_one (b := b) (by omega) y eb _ (by omega), if_pos hb]
    · rw [if_neg (fun z => y z.1), lqB9_off y]
theorem gWb_S (h : rIV N c t nx) (hn : nx ≤ 100000) {r : Nat} : ∀ B, gWb N (nI r) c B = nI (lqB9 r (lqs N c) B)
  | 0 => rfl
  | B + 1 => by
    show gWb N (nI r) c B + rWt N (nI r) (nI B) c = nI (lqB9 r (lqs N c) B + lqS (nI r) (nI B) (lqs N c))
    rw [gWb_S h hn B, rWt_S (h.lv hn), nI_add]
theorem rIV.op (h : rIV N c t nx) {r : Nat} (hr : r ≤ 5) : rOp N (nI r) = rg N r := by
  unfold rOp rg
  rw [rIx_nI hr]
theorem rIV.sound (h : rIV N c t nx) (hn : nx ≤ 100000) (r : Nat) (hr : r < 6) : rWt N (nI r) (-1) c = gWb N (nI r) c (rOp N (nI r)) ∧ gHt N (nI r) c (rOp N (nI r)) = false := by
  have hr5 : r ≤ 5 := by omega
  have hg := (h.g3 hr5).1
  rw [h.op hr5]
  refine ⟨?_, decide_eq_false (fun z => ?_)⟩
  · rw [gWb_S h hn, rWt_S (h.lv hn), lqB9_all hr5 (fun a ha => (h.g3 ha).1) h.li.ok]
  · obtain ⟨b, hb, hw⟩ := z
    have := h.li.wt r hr5 b (by omega)
    rw [rWt_S (h.lv hn), nI_ltI (by omega) (by omega)] at hw
    omega
theorem rIV.addUp (h : rIV N c t nx) : N 2 = nI c + N 5 + N 6 := by
  obtain ⟨dl, dd, e5, e6, e⟩ := h.sum
  rw [h.n2, e5, e6, nI_add, nI_add, e]
end GSn
