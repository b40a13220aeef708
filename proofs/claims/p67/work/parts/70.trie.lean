/-! THE TREE OF PREFIXES, AS NUMBERS -/
section GTp
def wk (C : Nat → Nat) : Nat → Nat → Option Nat
  | 0, _ => some 0
  | l + 1, v => match wk C l (v / 10) with
    | none => none
    | some n => if C (10 * n + v % 10) = 0 then none else some (C (10 * n + v % 10))
theorem wk_s {C : Nat → Nat} {l v : Nat} : wk C (l + 1) v = (match wk C l (v / 10) with
    | none => none
    | some n => if C (10 * n + v % 10) = 0 then none else some (C (10 * n + v % 10))) := rfl
theorem wk_some {C : Nat → Nat} {l v n : Nat} (h : wk C l (v / 10) = some n) : wk C (l + 1) v = if C (10 * n + v % 10) = 0 then none else some (C (10 * n + v % 10)) := by rw [wk_s, h]
theorem wk_none {C : Nat → Nat} {l v : Nat} (h : wk C l (v / 10) = none) : wk C (l + 1) v = none := by rw [wk_s, h]
def tI (C : Nat → Nat) (R : Nat → Int32) (k : Nat) (lo : Nat → Nat → Int32) : Prop :=
  (1 ≤ k ∧ k ≤ 49) ∧ (∀ l v n, v < 10 ^ l → wk C l v = some n → n < k ∧ R n = lo l v ∧ (n = 0 → l = 0)) ∧ (∀ l v l' v' n, v < 10 ^ l → v' < 10 ^ l' → wk C l v = some n → wk C l' v' = some n → l = l' ∧ v = v') ∧ (∀ l v, v < 10 ^ l → ¬ lo l v = -1 → ∃ n, wk C l v = some n) ∧ ∀ q, q < 490 → C q ≤ 48
def tZ (C : Nat → Nat) (k : Nat) : Nat → Nat := fun q => if 10 * k ≤ q ∧ q < 10 * k + 10 then 0 else C q
def tL (C : Nat → Nat) (n d m : Nat) : Nat → Nat := fun q => if q = 10 * n + d then m else C q
theorem p10_s {v l : Nat} (h : v < 10 ^ (l + 1)) : v / 10 < 10 ^ l := by
  rw [Nat.pow_succ] at h
  omega
theorem wk_new {C : Nat → Nat} {R : Nat → Int32} {k : Nat} {lo : Nat → Nat → Int32} {l v n d : Nat} (H : tI C R k lo) (hv : v < 10 ^ l) (hn : wk C l v = some n) (hd : d < 10) (h0 : C (10 * n + d) = 0) : ∀ l' v', v' < 10 ^ l' → wk (tL (tZ C k) n d k) l' v' = if l' = l + 1 ∧ v' = 10 * v + d then some k else wk C l' v'
  | 0, v', _ => by
    rw [if_neg (fun z => by omega)]
    rfl
  | l' + 1, v', h' => by
    have hv2 := p10_s h'
    have ih := wk_new H hv hn hd h0 l' (v' / 10) hv2
    have hnk := (H.2.1 l v n hv hn).1
    by_cases a : l' = l + 1 ∧ v' / 10 = 10 * v + d
    · rw [if_pos a] at ih
      rw [wk_some ih]
      have e0 : tL (tZ C k) n d k (10 * k + v' % 10) = 0 := by
        unfold tL tZ
        rw [if_neg (by omega), if_pos (by omega)]
      rw [e0, if_pos rfl, if_neg (fun z => by omega)]
      have : wk C l' (v' / 10) = none := by
        obtain ⟨a1, a2⟩ := a
        subst a1
        rw [a2, wk_some (n := n) (by rw [show (10 * v + d) / 10 = v by omega]; exact hn), show (10 * v + d) % 10 = d by omega, if_pos h0]
      exact (wk_none this).symm
    · rw [if_neg a] at ih
      cases e : wk C l' (v' / 10) with
      | none =>
        rw [e] at ih
        rw [wk_none ih, wk_none e, if_neg (fun z => ?_)]
        obtain ⟨b1, b2⟩ := z
        have b3 : l' = l := by omega
        have b4 : v' / 10 = v := by omega
        rw [b3, b4, hn] at e
        cases e
      | some m =>
        rw [e] at ih
        rw [wk_some ih, wk_some e]
        have hm := (H.2.1 l' (v' / 10) m hv2 e).1
        by_cases b : l' + 1 = l + 1 ∧ v' = 10 * v + d
        · rw [if_pos b]
          have b3 : l' = l := by omega
          have b4 : v' / 10 = v := by omega
          have b5 : v' % 10 = d := by omega
          rw [b3, b4, hn] at e
          have b6 : n = m := Option.some.inj e
          have ek : tL (tZ C k) n d k (10 * m + v' % 10) = k := by
            unfold tL
            rw [if_pos (by omega)]
          rw [ek, if_neg (by omega)]
        · rw [if_neg b]
          have hne : 10 * m + v' % 10 ≠ 10 * n + d := fun z => by
            have mn : m = n := by omega
            subst mn
            obtain ⟨c1, c2⟩ := H.2.2.1 l' (v' / 10) l v m hv2 hv e hn
            exact b ⟨by omega, by omega⟩
          have ek : tL (tZ C k) n d k (10 * m + v' % 10) = C (10 * m + v' % 10) := by
            unfold tL tZ
            rw [if_neg hne, if_neg (by omega)]
          rw [ek]
theorem tI_new {C : Nat → Nat} {R : Nat → Int32} {k : Nat} {lo : Nat → Nat → Int32} {l v n d : Nat} (H : tI C R k lo) (hv : v < 10 ^ l) (hn : wk C l v = some n) (hd : d < 10) (h0 : C (10 * n + d) = 0) (hk : k < 49) : tI (tL (tZ C k) n d k) (upd R k (-1)) (k + 1) lo ∧ wk (tL (tZ C k) n d k) (l + 1) (10 * v + d) = some k := by
  have W := wk_new H hv hn hd h0
  have hv1 : 10 * v + d < 10 ^ (l + 1) := by rw [Nat.pow_succ]; omega
  have ho : wk C (l + 1) (10 * v + d) = none := by
    rw [wk_some (n := n) (by rw [show (10 * v + d) / 10 = v by omega]; exact hn), show (10 * v + d) % 10 = d by omega, if_pos h0]
  refine ⟨⟨⟨by omega, by omega⟩, fun l' v' m h1 h2 => ?_, fun l1 v1 l2 v2 m h1 h2 h3 h4 => ?_, fun l' v' h1 h2 => ?_, fun q hq => ?_⟩, by rw [W _ _ hv1, if_pos ⟨rfl, rfl⟩]⟩
  · rw [W l' v' h1] at h2
    by_cases a : l' = l + 1 ∧ v' = 10 * v + d
    · rw [if_pos a] at h2
      cases h2
      refine ⟨by omega, ?_, fun z => by have := H.1.1; omega⟩
      rw [pk_us, a.1, a.2]
      refine Classical.byContradiction (fun z => ?_)
      obtain ⟨m, hm⟩ := H.2.2.2.1 _ _ hv1 (fun y => z y.symm)
      rw [ho] at hm; cases hm
    · rw [if_neg a] at h2
      obtain ⟨g1, g2, g3⟩ := H.2.1 l' v' m h1 h2
      exact ⟨by omega, by rw [pk_un (by omega)]; exact g2, g3⟩
  · rw [W l1 v1 h1] at h3
    rw [W l2 v2 h2] at h4
    by_cases a : l1 = l + 1 ∧ v1 = 10 * v + d
    · rw [if_pos a] at h3
      by_cases b : l2 = l + 1 ∧ v2 = 10 * v + d
      · exact ⟨by omega, by omega⟩
      · rw [if_neg b] at h4
        have := (H.2.1 l2 v2 m h2 h4).1
        have := Option.some.inj h3
        omega
    · rw [if_neg a] at h3
      by_cases b : l2 = l + 1 ∧ v2 = 10 * v + d
      · rw [if_pos b] at h4
        have := (H.2.1 l1 v1 m h1 h3).1
        have := Option.some.inj h4
        omega
      · rw [if_neg b] at h4
        exact H.2.2.1 l1 v1 l2 v2 m h1 h2 h3 h4
  · obtain ⟨m, hm⟩ := H.2.2.2.1 l' v' h1 h2
    rw [W l' v' h1]
    split
    · exact ⟨k, rfl⟩
    · exact ⟨m, hm⟩
  · unfold tL tZ
    split
    · omega
    · split
      · omega
      · exact H.2.2.2.2 q hq
theorem tI_set {C : Nat → Nat} {R : Nat → Int32} {k : Nat} {lo : Nat → Nat → Int32} {l v n : Nat} {r : Int32} (H : tI C R k lo) (hv : v < 10 ^ l) (hn : wk C l v = some n) : tI C (upd R n r) k (fun l' v' => if l' = l ∧ v' = v then r else lo l' v') := by
  refine ⟨H.1, fun l' v' m h1 h2 => ?_, H.2.2.1, fun l' v' h1 h2 => ?_, H.2.2.2.2⟩
  · obtain ⟨g1, g2, g3⟩ := H.2.1 l' v' m h1 h2
    refine ⟨g1, ?_, g3⟩
    by_cases a : l' = l ∧ v' = v
    · obtain ⟨a1, a2⟩ := a
      subst a1
      subst a2
      rw [hn] at h2
      cases h2
      show _ = if _ then _ else _
      rw [pk_us, if_pos ⟨rfl, rfl⟩]
    · show _ = if _ then _ else _
      rw [if_neg a, pk_un (fun z => by subst z; exact a (H.2.2.1 l' v' l v m h1 hv h2 hn))]
      exact g2
  · have h2' : ¬ (if l' = l ∧ v' = v then r else lo l' v') = -1 := h2
    by_cases a : l' = l ∧ v' = v
    · rw [a.1, a.2]; exact ⟨n, hn⟩
    · rw [if_neg a] at h2'
      exact H.2.2.2.1 l' v' h1 h2'
theorem wk_0 {C : Nat → Nat} : ∀ l v, wk (tZ C 0) (l + 1) v = none
  | 0, v => by
    rw [wk_some (n := 0) rfl]
    have : tZ C 0 (10 * 0 + v % 10) = 0 := by
      unfold tZ
      rw [if_pos (by omega)]
    rw [this, if_pos rfl]
  | l + 1, v => wk_none (wk_0 l _)
theorem tI_0 {C : Nat → Nat} {R : Nat → Int32} (hC : ∀ q, q < 490 → C q ≤ 48) : tI (tZ C 0) (upd R 0 (-1)) 1 (fun _ _ => -1) := by
  refine ⟨⟨by omega, by omega⟩, fun l v n h1 h2 => ?_, fun l v l' v' n h1 h2 h3 h4 => ?_, fun l v h1 h2 => absurd rfl h2, fun q hq => ?_⟩
  · cases l with
    | zero =>
      cases h2
      exact ⟨by omega, pk_us, fun _ => rfl⟩
    | succ l => rw [wk_0] at h2; cases h2
  · cases l with
    | zero =>
      cases l' with
      | zero =>
        rw [Nat.pow_zero] at h1 h2
        exact ⟨rfl, by omega⟩
      | succ l' => rw [wk_0] at h4; cases h4
    | succ l => rw [wk_0] at h3; cases h3
  · unfold tZ
    split
    · omega
    · exact hC q hq
/-- what the prefixes say of digits -/
def lkN (N : Nat → Int32) : Nat → Nat → Nat → Int32
  | 0, _, _ => -1
  | i + 1, l, v => if l = (N (26 + 3 * i + 1)).toNatClampNeg ∧ v = (N (26 + 3 * i)).toNatClampNeg then N (26 + 3 * i + 2) else lkN N i l v
theorem lkN_s {N : Nat → Int32} {i dg ln : Nat} (h1 : N (26 + 3 * i) = nI dg) (h2 : N (26 + 3 * i + 1) = nI ln) (b1 : dg < 2 ^ 31) (b2 : ln < 2 ^ 31) : lkN N (i + 1) = fun l v => if l = ln ∧ v = dg then N (26 + 3 * i + 2) else lkN N i l v := by
  funext l v
  show (if l = (N (26 + 3 * i + 1)).toNatClampNeg ∧ v = (N (26 + 3 * i)).toNatClampNeg then N (26 + 3 * i + 2) else lkN N i l v) = _
  rw [h1, h2, nI_clamp b1, nI_clamp b2]
def bst (lo : Nat → Nat → Int32) (cd : Nat) : Nat → Int32
  | 0 => -1
  | j + 1 => if lo (j + 1) (cd / 10 ^ (3 - j)) = -1 then bst lo cd j else lo (j + 1) (cd / 10 ^ (3 - j))
theorem bst_s {lo : Nat → Nat → Int32} {cd j : Nat} : bst lo cd (j + 1) = if lo (j + 1) (cd / 10 ^ (3 - j)) = -1 then bst lo cd j else lo (j + 1) (cd / 10 ^ (3 - j)) := rfl
theorem bst_st {lo : Nat → Nat → Int32} {cd j : Nat} : ∀ m, j + m ≤ 4 → (∀ l, j < l → l ≤ j + m → lo l (cd / 10 ^ (4 - l)) = -1) → bst lo cd (j + m) = bst lo cd j
  | 0, _, _ => rfl
  | m + 1, h, k => by
    have e := k (j + m + 1) (by omega) (by omega)
    rw [show 4 - (j + m + 1) = 3 - (j + m) by omega] at e
    show bst lo cd (j + m + 1) = _
    rw [bst_s, if_pos e]
    exact bst_st m (by omega) (fun l a b => k l a (by omega))
theorem cdp_s {cd l : Nat} (h : l ≤ 3) : cd / 10 ^ (4 - (l + 1)) / 10 = cd / 10 ^ (4 - l) ∧ cd / 10 ^ (4 - (l + 1)) % 10 = cd / 10 ^ (3 - l) % 10 := by
  have : l = 0 ∨ l = 1 ∨ l = 2 ∨ l = 3 := by omega
  rcases this with rfl | rfl | rfl | rfl <;> (simp only [Nat.reduceAdd, Nat.reduceSub, Nat.reducePow]; refine ⟨?_, ?_⟩ <;> first | trivial | omega)
theorem cdp_lt {cd l : Nat} (hc : cd < 10000) (h : l ≤ 4) : cd / 10 ^ (4 - l) < 10 ^ l := by
  have : l = 0 ∨ l = 1 ∨ l = 2 ∨ l = 3 ∨ l = 4 := by omega
  rcases this with rfl | rfl | rfl | rfl | rfl <;> (simp only [Nat.reduceSub, Nat.reducePow]; omega)
theorem wk_up {C : Nat → Nat} {cd j : Nat} (h : wk C j (cd / 10 ^ (4 - j)) = none) : ∀ m, j + m ≤ 4 → wk C (j + m) (cd / 10 ^ (4 - (j + m))) = none
  | 0, _ => h
  | m + 1, hm => by
    refine wk_none (l := j + m) ?_
    rw [show j + (m + 1) = j + m + 1 from rfl, (cdp_s (by omega)).1]
    exact wk_up h m (by omega)
theorem bst_none {C : Nat → Nat} {R : Nat → Int32} {k : Nat} {lo : Nat → Nat → Int32} {cd j : Nat} (H : tI C R k lo) (hc : cd < 10000) (hj : j ≤ 3) (h : wk C (j + 1) (cd / 10 ^ (4 - (j + 1))) = none) : bst lo cd 4 = bst lo cd j := by
  have := bst_st (lo := lo) (cd := cd) (j := j) (4 - j) (by omega) (fun l a b => by
    refine Classical.byContradiction (fun z => ?_)
    obtain ⟨n, hn⟩ := H.2.2.2.1 l (cd / 10 ^ (4 - l)) (cdp_lt hc (by omega)) z
    have w := wk_up h (l - (j + 1)) (by omega)
    rw [show j + 1 + (l - (j + 1)) = l by omega, hn] at w
    cases w)
  rwa [show j + (4 - j) = 4 by omega] at this
/-- the reference's route is the tree's -/
theorem rMatch_lk {N : Nat → Int32} {t cd : Nat} (ht : t ≤ 12) (hv : rPv N t) (hu : rUp N t) (hc : cd < 10000) : ∀ i, i ≤ t → (rMatch N (nI cd) (nI 4) (nI 4) i = -1 ∧ ∀ l, 1 ≤ l → l ≤ 4 → lkN N i l (cd / 10 ^ (4 - l)) = -1) ∨ ∃ k L, k < i ∧ rMatch N (nI cd) (nI 4) (nI 4) i = nI k ∧ 1 ≤ L ∧ L ≤ 4 ∧ N (26 + 3 * k + 1) = nI L ∧ N (26 + 3 * k) = nI (cd / 10 ^ (4 - L)) ∧ lkN N i L (cd / 10 ^ (4 - L)) = N (26 + 3 * k + 2) ∧ ∀ l, L < l → l ≤ 4 → lkN N i l (cd / 10 ^ (4 - l)) = -1
  | 0, _ => Or.inl ⟨rfl, fun _ _ _ => rfl⟩
  | i + 1, hi => by
    have ih := rMatch_lk ht hv hu hc i (by omega)
    obtain ⟨dg, ln, rt, e1, e2, e3, h1, h2, h3, h4⟩ := hv i (by omega)
    have hdl : dg < 10000 := by
      have : ln = 1 ∨ ln = 2 ∨ ln = 3 ∨ ln = 4 := by omega
      rcases this with rfl | rfl | rfl | rfl <;> (simp only [Nat.reducePow] at h3; omega)
    have hdv : cd / 10 ^ (4 - ln) < 10000 := Nat.lt_of_le_of_lt (Nat.div_le_self _ _) hc
    have hpw : 10 ^ (4 - ln) < 2 ^ 31 ∧ 0 < 10 ^ (4 - ln) := by
      have : ln = 1 ∨ ln = 2 ∨ ln = 3 ∨ ln = 4 := by omega
      rcases this with rfl | rfl | rfl | rfl <;> decide
    have cm : (N (26 + 3 * i + 1) ≤ nI 4 ∧ nI cd / rTens (rMax (nI 0) (nI 4 - N (26 + 3 * i + 1))) = N (26 + 3 * i)) ↔ cd / 10 ^ (4 - ln) = dg := by
      rw [e1, e2, nI_subN h2, rMax_0 (by omega), rTens_n (by omega), pk_div (by omega) hpw.2 hpw.1, nI_eq (by omega) (by omega)]
      exact ⟨fun z => z.2, fun z => ⟨nI_le h2 (by omega), z⟩⟩
    have hlk := lkN_s e1 e2 (by omega) (by omega)
    have no : ¬ cd / 10 ^ (4 - ln) = dg → ∀ l, lkN N (i + 1) l (cd / 10 ^ (4 - l)) = lkN N i l (cd / 10 ^ (4 - l)) := fun z l => by
      rw [hlk]
      show (if l = ln ∧ cd / 10 ^ (4 - l) = dg then _ else _) = _
      rw [if_neg (fun y => by rw [y.1] at y; exact z y.2)]
    have yes : cd / 10 ^ (4 - ln) = dg → lkN N (i + 1) ln (cd / 10 ^ (4 - ln)) = N (26 + 3 * i + 2) := fun z => by
      rw [hlk]
      show (if ln = ln ∧ cd / 10 ^ (4 - ln) = dg then _ else _) = _
      rw [if_pos ⟨rfl, z⟩]
    have oth : ∀ l, l ≠ ln → lkN N (i + 1) l (cd / 10 ^ (4 - l)) = lkN N i l (cd / 10 ^ (4 - l)) := fun l z => by
      rw [hlk]
      show (if l = ln ∧ cd / 10 ^ (4 - l) = dg then _ else _) = _
      rw [if_neg (fun y => z y.1)]
    rw [rMatch_s]
    by_cases m : cd / 10 ^ (4 - ln) = dg
    · rcases ih with ⟨a1, a2⟩ | ⟨k, L, b1, b2, b3, b4, b5, b6, b7, b8⟩
      · rw [if_pos ⟨cm.mpr m, Or.inl a1⟩]
        exact Or.inr ⟨i, ln, by omega, rfl, h1, h2, e2, by rw [m]; exact e1, yes m, fun l l1 l2 => (oth l (by omega)).trans (a2 l (by omega) l2)⟩
      · have hne : ¬ ln = L := fun z => by
          subst z
          exact hu k i b1 (by omega) ⟨by rw [b6, e1, m], by rw [b5, e2]⟩
        by_cases q : L < ln
        · rw [if_pos ⟨cm.mpr m, Or.inr (by rw [b2, nI_clamp (by omega), b5, e2]; exact nI_lt q (by omega))⟩]
          exact Or.inr ⟨i, ln, by omega, rfl, h1, h2, e2, by rw [m]; exact e1, yes m, fun l l1 l2 => (oth l (by omega)).trans (b8 l (by omega) l2)⟩
        · rw [if_neg (fun z => by
            rcases z.2 with y | y
            · rw [b2] at y; exact nI_nm1 (by omega) y
            · rw [b2, nI_clamp (by omega), b5, e2] at y
              exact absurd ((nI_ltI (by omega) (by omega)).mp y) q)]
          exact Or.inr ⟨k, L, by omega, b2, b3, b4, b5, b6, (oth L (by omega)).trans b7, fun l l1 l2 => (oth l (by omega)).trans (b8 l l1 l2)⟩
    · rw [if_neg (fun z => m (cm.mp z.1))]
      rcases ih with ⟨a1, a2⟩ | ⟨k, L, b1, b2, b3, b4, b5, b6, b7, b8⟩
      · exact Or.inl ⟨a1, fun l l1 l2 => (no m l).trans (a2 l l1 l2)⟩
      · exact Or.inr ⟨k, L, by omega, b2, b3, b4, b5, b6, (no m L).trans b7, fun l l1 l2 => (no m l).trans (b8 l l1 l2)⟩
theorem rRoute_bst {N : Nat → Int32} {t cd : Nat} (ht : t ≤ 12) (hv : rPv N t) (hu : rUp N t) (hc : cd < 10000) : rRoute N (nI cd) t = bst (lkN N t) cd 4 := by
  unfold rRoute
  rcases rMatch_lk ht hv hu hc t (Nat.le_refl _) with ⟨a1, a2⟩ | ⟨k, L, b1, b2, b3, b4, b5, b6, b7, b8⟩
  · rw [if_pos a1]
    exact (bst_st (j := 0) 4 (by omega) (fun l l1 l2 => a2 l (by omega) (by omega))).symm
  · rw [b2, if_neg (nI_nm1 (by omega)), nI_clamp (by omega)]
    have := bst_st (lo := lkN N t) (cd := cd) (j := L) (4 - L) (by omega) (fun l l1 l2 => b8 l l1 (by omega))
    rw [show L + (4 - L) = 4 by omega] at this
    rw [this]
    obtain ⟨j, rfl⟩ : ∃ j, L = j + 1 := ⟨L - 1, by omega⟩
    rw [bst_s, show 3 - j = 4 - (j + 1) by omega, b7, if_neg ?_]
    obtain ⟨dg, ln, rt, e1, e2, e3, h1, h2, h3, h4⟩ := hv k b1
    rw [e3]
    exact nI_nm1 (by omega)
end GTp
