/-! THE LETTERS OF A ROW AS A LIST; WHAT A DEPARTURE LEAVES -/
section GLq
abbrev lqT : Type := Int32 × Int32 × Int32 × Int32 × Int32 × Int32 × Int32
def lqN (N : Nat → Int32) (i : Nat) : lqT := (N (62 + 7 * i), N (62 + 7 * i + 1), N (62 + 7 * i + 2), N (62 + 7 * i + 3), N (62 + 7 * i + 4), N (62 + 7 * i + 5), N (62 + 7 * i + 6))
def lqs (N : Nat → Int32) (c : Nat) : List lqT := (List.range c).map (lqN N)
theorem lqs_len {N : Nat → Int32} {c : Nat} : (lqs N c).length = c := by unfold lqs; rw [List.length_map, List.length_range]
theorem lqs_get {N : Nat → Int32} {c i : Nat} (h : i < c) : (lqs N c)[i]? = some (lqN N i) := by
  unfold lqs
  rw [List.getElem?_map, List.getElem?_range h]
  rfl
theorem lqs_no {N : Nat → Int32} {c i : Nat} (h : c ≤ i) : (lqs N c)[i]? = none := List.getElem?_eq_none (by rw [lqs_len]; exact h)
theorem lqs_of {N : Nat → Int32} {c : Nat} {l : List lqT} (hl : l.length = c) (h : ∀ i, i < c → l[i]? = some (lqN N i)) : lqs N c = l := by
  refine List.ext_getElem? (fun i => ?_)
  by_cases z : i < c
  · rw [lqs_get z, h i z]
  · rw [lqs_no (by omega), List.getElem?_eq_none (by omega)]
theorem lqN_cg {N N' : Nat → Int32} {i j : Nat} (h : ∀ k, k < 7 → N (62 + 7 * i + k) = N' (62 + 7 * j + k)) : lqN N i = lqN N' j := by
  unfold lqN
  have h0 := h 0 (by omega)
  rw [Nat.add_zero, Nat.add_zero] at h0
  rw [h0, h 1 (by omega), h 2 (by omega), h 3 (by omega), h 4 (by omega), h 5 (by omega), h 6 (by omega)]
theorem lqs_cg {N N' : Nat → Int32} {c : Nat} (h : ∀ q, 62 ≤ q → q < 62 + 7 * c → N q = N' q) : lqs N c = lqs N' c :=
  lqs_of lqs_len (fun i hi => by rw [lqs_get hi]; exact congrArg some (lqN_cg (fun k hk => (h _ (by omega) (by omega)).symm)))
theorem lqN_at {N N' : Nat → Int32} {i j k : Nat} (e : lqN N i = lqN N' j) (hk : k < 7) : N (62 + 7 * i + k) = N' (62 + 7 * j + k) := by
  unfold lqN at e
  simp only [Prod.mk.injEq] at e
  obtain ⟨e0, e1, e2, e3, e4, e5, e6⟩ := e
  have : k = 0 ∨ k = 1 ∨ k = 2 ∨ k = 3 ∨ k = 4 ∨ k = 5 ∨ k = 6 := by omega
  rcases this with rfl | rfl | rfl | rfl | rfl | rfl | rfl <;> assumption
theorem lqs_eq {N N' : Nat → Int32} {c : Nat} (e : lqs N c = lqs N' c) : ∀ q, 62 ≤ q → q < 62 + 7 * c → N q = N' q := by
  intro q h1 h2
  have hi : (q - 62) / 7 < c := by omega
  have e2 := congrArg (fun l => l[(q - 62) / 7]?) e
  simp only [lqs_get hi, Option.some.injEq] at e2
  have := lqN_at e2 (k := (q - 62) % 7) (by omega)
  rwa [show 62 + 7 * ((q - 62) / 7) + (q - 62) % 7 = q by omega] at this
theorem lqs_rLv {N : Nat → Int32} {p c : Nat} (hp : p ≤ c) (hc : c ≤ 19) : lqs (rLv N p) c = (lqs N (c + 1)).eraseIdx p := by
  refine lqs_of (by rw [List.length_eraseIdx, lqs_len, if_pos (by omega)]; omega) (fun i hi => ?_)
  rw [List.getElem?_eraseIdx]
  by_cases z : i < p
  · rw [if_pos z, lqs_get (by omega)]
    exact congrArg some (lqN_cg (fun k hk => (rLv_k (by omega) (by omega)).symm))
  · rw [if_neg z, lqs_get (by omega)]
    refine congrArg some (lqN_cg (fun k hk => ?_))
    unfold rLv rShf
    rw [pk_un (by omega), if_pos (by omega)]
    congr 1; omega
def lqB (x : lqT) : lqT := (x.1, x.2.1, x.2.2.1, x.2.2.2.1, x.2.2.2.2.1 + nI 1, -1, x.2.2.2.2.2.2)
theorem rBk_o {N : Nat → Int32} {p q : Nat} (h : 62 ≤ q) (h4 : q ≠ 62 + 7 * p + 4) (h5 : q ≠ 62 + 7 * p + 5) : rBk N p q = N q := by
  unfold rBk
  rw [pk_un (by omega), pk_un (by omega), pk_un h5, pk_un h4]
theorem rBk_4 {N : Nat → Int32} {p : Nat} : rBk N p (62 + 7 * p + 4) = N (62 + 7 * p + 4) + nI 1 := by
  unfold rBk
  rw [pk_un (by omega), pk_un (by omega), pk_un (by omega), pk_us]
theorem rBk_5 {N : Nat → Int32} {p : Nat} : rBk N p (62 + 7 * p + 5) = -1 := by
  unfold rBk
  rw [pk_un (by omega), pk_un (by omega), pk_us]
theorem rBk_7 {N : Nat → Int32} {p : Nat} : rBk N p 7 = N 7 + nI 1 := by
  unfold rBk
  rw [pk_un (by omega), pk_us]
theorem rBk_6 {N : Nat → Int32} {p : Nat} : rBk N p 6 = N 6 + (if N (62 + 7 * p + 4) + nI 1 = nI 3 then nI 1 else nI 0) := by
  unfold rBk
  rw [pk_us]
theorem lqs_rBk {N : Nat → Int32} {p c : Nat} (hp : p < c) : lqs (rBk N p) c = (lqs N c).set p (lqB (lqN N p)) := by
  refine lqs_of (by rw [List.length_set, lqs_len]) (fun i hi => ?_)
  by_cases z : p = i
  · subst z
    rw [List.getElem?_set_self (by rw [lqs_len]; exact hp)]
    unfold lqN lqB
    rw [rBk_o (by omega) (by omega) (by omega), rBk_o (by omega) (by omega) (by omega), rBk_o (by omega) (by omega) (by omega), rBk_o (by omega) (by omega) (by omega), rBk_4, rBk_5, rBk_o (by omega) (by omega) (by omega)]
  · rw [List.getElem?_set_ne z, lqs_get hi]
    exact congrArg some (lqN_cg (fun k hk => (rBk_o (by omega) (by omega) (by omega)).symm))
theorem rMatch_cg {N N' : Nat → Int32} {dg ln most : Int32} {t : Nat} (ht : t ≤ 12) (h : ∀ q, 26 ≤ q → q < 62 → N q = N' q) : ∀ i, i ≤ t → rMatch N dg ln most i = rMatch N' dg ln most i
  | 0, _ => rfl
  | i + 1, hi => by
    have ih := rMatch_cg (dg := dg) (ln := ln) (most := most) ht h i (by omega)
    rw [rMatch_s, rMatch_s, ih, h (26 + 3 * i + 1) (by omega) (by omega), h (26 + 3 * i) (by omega) (by omega)]
    rcases rMatch_in (N := N') (dg := dg) (ln := ln) (most := most) (c := i) with e | ⟨k, hk, e⟩
    · simp only [e]
      simp only [true_or, and_true]
    · simp only [e]
      rw [nI_clamp (by omega), h (26 + 3 * k + 1) (by omega) (by omega)]
theorem rRoute_cg {N N' : Nat → Int32} {code : Int32} {t : Nat} (ht : t ≤ 12) (h : ∀ q, 26 ≤ q → q < 62 → N q = N' q) : rRoute N code t = rRoute N' code t := by
  unfold rRoute
  rw [rMatch_cg ht h t (Nat.le_refl _)]
  rcases rMatch_in (N := N') (dg := code) (ln := nI 4) (most := nI 4) (c := t) with e | ⟨k, hk, e⟩
  · rw [e, if_pos rfl, if_pos rfl]
  · rw [e, if_neg (nI_nm1 (by omega)), if_neg (nI_nm1 (by omega)), nI_clamp (by omega), h _ (by omega) (by omega)]
/-- what a departure makes of a letter -/
def lqF (N0 : Nat → Int32) (rt : Int32) (t : Nat) (x : lqT) : Option lqT := if x.2.2.2.2.2.1 = rt then (if rRoute N0 x.2.1 t = rt then none else if x.2.2.2.2.1 + nI 1 = nI 3 then none else some (lqB x)) else some x
def lqD (N0 : Nat → Int32) (rt : Int32) (t : Nat) (x : lqT) : Bool := decide (x.2.2.2.2.2.1 = rt ∧ rRoute N0 x.2.1 t = rt)
def lqR (N0 : Nat → Int32) (rt : Int32) (t : Nat) (x : lqT) : Bool := decide (x.2.2.2.2.2.1 = rt ∧ ¬ rRoute N0 x.2.1 t = rt)
def lqX (N0 : Nat → Int32) (rt : Int32) (t : Nat) (x : lqT) : Bool := decide ((x.2.2.2.2.2.1 = rt ∧ ¬ rRoute N0 x.2.1 t = rt) ∧ x.2.2.2.2.1 + nI 1 = nI 3)
theorem nI_as (m : Int32) (a : Nat) : m + nI 1 + nI a = m + nI (a + 1) := by
  rw [Int32.add_assoc, nI_add, Nat.add_comm]
theorem er_mid {α : Type} {pre : List α} {x : α} {post : List α} {p : Nat} (h : pre.length = p) : (pre ++ x :: post).eraseIdx p = pre ++ post := by
  rw [List.eraseIdx_append_of_length_le (by omega), show p - pre.length = 0 by omega]
  rfl
theorem set_mid {α : Type} {pre : List α} {x y : α} {post : List α} {p : Nat} (h : pre.length = p) : (pre ++ x :: post).set p y = pre ++ y :: post := by
  rw [List.set_append, if_neg (by omega), show p - pre.length = 0 by omega]
  rfl
theorem get_mid {α : Type} {pre : List α} {x : α} {post : List α} {p : Nat} (h : pre.length = p) : (pre ++ x :: post)[p]? = some x := by
  rw [List.getElem?_append_right (by omega), show p - pre.length = 0 by omega]
  rfl
/-- the reference's walk, first to last -/
theorem rDL_ls {N0 : Nat → Int32} {rt : Int32} {t : Nat} (ht : t ≤ 12) : ∀ (n p c : Nat) (N : Nat → Int32) (m : Int32) (pre xs : List lqT), p + n = c → c ≤ 20 → N 3 = nI c → (∀ q, 26 ≤ q → q < 62 → N q = N0 q) → pre.length = p → xs.length = n → lqs N c = pre ++ xs →
    ∃ c', c' = p + (xs.filterMap (lqF N0 rt t)).length ∧ c' ≤ c ∧ (rDL rt t n N p m).1 3 = nI c' ∧ lqs (rDL rt t n N p m).1 c' = pre ++ xs.filterMap (lqF N0 rt t) ∧ (rDL rt t n N p m).2 = m + nI (xs.countP (lqD N0 rt t)) ∧ (rDL rt t n N p m).1 6 = N 6 + nI (xs.countP (lqX N0 rt t)) ∧ (rDL rt t n N p m).1 7 = N 7 + nI (xs.countP (lqR N0 rt t)) ∧ ∀ q, q < 62 → q ≠ 3 → q ≠ 6 → q ≠ 7 → (rDL rt t n N p m).1 q = N q
  | 0, p, c, N, m, pre, xs, hn, hc, h3, h0, hp, hx, hl => by
    obtain rfl := List.length_eq_zero_iff.mp hx
    exact ⟨c, by simp; omega, Nat.le_refl _, h3, by rw [show rDL rt t 0 N p m = (N, m) from rfl]; exact hl, (a_n0 _).symm, (a_n0 _).symm, (a_n0 _).symm, fun _ _ _ _ _ => rfl⟩
  | n + 1, p, c, N, m, pre, xs, hn, hc, h3, h0, hp, hx, hl => by
    obtain ⟨x, ys, rfl⟩ : ∃ x ys, xs = x :: ys := by
      cases xs with
      | nil => cases hx
      | cons x ys => exact ⟨x, ys, rfl⟩
    have hy : ys.length = n := Nat.succ.inj hx
    have ex : lqN N p = x := by
      have := lqs_get (N := N) (c := c) (i := p) (by omega)
      rw [hl, get_mid hp] at this
      exact (Option.some.inj this).symm
    have e4 : N (62 + 7 * p + 4) = x.2.2.2.2.1 := by rw [← ex]; rfl
    have e5 : N (62 + 7 * p + 5) = x.2.2.2.2.2.1 := by rw [← ex]; rfl
    have er : rRoute N (N (62 + 7 * p + 1)) t = rRoute N0 x.2.1 t := by rw [rRoute_cg ht h0, ← ex]; rfl
    obtain ⟨c0, rfl⟩ : ∃ c0, c = c0 + 1 := ⟨c - 1, by omega⟩
    rw [rDL_s, e5, er, e4]
    by_cases a : x.2.2.2.2.2.1 = rt
    · rw [if_pos a]
      by_cases b : rRoute N0 x.2.1 t = rt
      · rw [if_pos b]
        obtain ⟨c', r1, r2, r3, r4, r5, r6, r7, r8⟩ := rDL_ls (rt := rt) ht n p c0 (rLv N p) (m + nI 1) pre ys (by omega) (by omega) (rLv_3 h3) (fun q q1 q2 => (rLv_k (by omega) (by omega)).trans (h0 q q1 q2)) hp hy (by rw [lqs_rLv (by omega) (by omega), hl, er_mid hp])
        have f1 : lqF N0 rt t x = none := by unfold lqF; rw [if_pos a, if_pos b]
        have f2 : lqD N0 rt t x = true := decide_eq_true ⟨a, b⟩
        have f3 : ¬ lqX N0 rt t x = true := fun z => (of_decide_eq_true z).1.2 b
        have f4 : ¬ lqR N0 rt t x = true := fun z => (of_decide_eq_true z).2 b
        rw [List.filterMap_cons_none f1, List.countP_cons_of_pos f2, List.countP_cons_of_neg f3, List.countP_cons_of_neg f4]
        exact ⟨c', r1, by omega, r3, r4, r5.trans (nI_as _ _), by rw [r6, rLv_k (by omega) (by omega)], by rw [r7, rLv_k (by omega) (by omega)], fun q h1 h2 h4 h5 => (r8 q h1 h2 h4 h5).trans (rLv_k (by omega) h2)⟩
      · rw [if_neg b]
        have f2 : ¬ lqD N0 rt t x = true := fun z => b (of_decide_eq_true z).2
        have f4 : lqR N0 rt t x = true := decide_eq_true ⟨a, b⟩
        by_cases d : x.2.2.2.2.1 + nI 1 = nI 3
        · rw [if_pos d]
          obtain ⟨c', r1, r2, r3, r4, r5, r6, r7, r8⟩ := rDL_ls (rt := rt) ht n p c0 (rLv (rBk N p) p) m pre ys (by omega) (by omega) (rLv_3 ((rBk_k (by omega) (by omega) (by omega)).trans h3)) (fun q q1 q2 => ((rLv_k (by omega) (by omega)).trans (rBk_k (by omega) (by omega) (by omega))).trans (h0 q q1 q2)) hp hy (by rw [lqs_rLv (by omega) (by omega), lqs_rBk (by omega), hl, set_mid hp, er_mid hp])
          have f1 : lqF N0 rt t x = none := by unfold lqF; rw [if_pos a, if_neg b, if_pos d]
          have f3 : lqX N0 rt t x = true := decide_eq_true ⟨⟨a, b⟩, d⟩
          rw [List.filterMap_cons_none f1, List.countP_cons_of_neg f2, List.countP_cons_of_pos f3, List.countP_cons_of_pos f4]
          exact ⟨c', r1, by omega, r3, r4, r5, by rw [r6, rLv_k (by omega) (by omega), rBk_6, e4, if_pos d, nI_as], by rw [r7, rLv_k (by omega) (by omega), rBk_7, nI_as], fun q h1 h2 h4 h5 => ((r8 q h1 h2 h4 h5).trans (rLv_k (by omega) h2)).trans (rBk_k h1 h4 h5)⟩
        · rw [if_neg d]
          have f1 : lqF N0 rt t x = some (lqB x) := by unfold lqF; rw [if_pos a, if_neg b, if_neg d]
          have f3 : ¬ lqX N0 rt t x = true := fun z => d (of_decide_eq_true z).2
          obtain ⟨c', r1, r2, r3, r4, r5, r6, r7, r8⟩ := rDL_ls (rt := rt) ht n (p + 1) (c0 + 1) (rBk N p) m (pre ++ [lqB x]) ys (by omega) (by omega) ((rBk_k (by omega) (by omega) (by omega)).trans h3) (fun q q1 q2 => (rBk_k (by omega) (by omega) (by omega)).trans (h0 q q1 q2)) (by rw [List.length_append, hp]; rfl) hy (by rw [lqs_rBk (by omega), hl, set_mid hp, ex, List.append_assoc]; rfl)
          rw [List.filterMap_cons_some f1, List.countP_cons_of_neg f2, List.countP_cons_of_neg f3, List.countP_cons_of_pos f4]
          exact ⟨c', by rw [r1, List.length_cons]; omega, by omega, r3, by rw [r4, List.append_assoc]; rfl, r5, by rw [r6, rBk_6, e4, if_neg d, a_n0], by rw [r7, rBk_7, nI_as], fun q h1 h2 h4 h5 => (r8 q h1 h2 h4 h5).trans (rBk_k h1 h4 h5)⟩
    · rw [if_neg a]
      have f1 : lqF N0 rt t x = some x := by unfold lqF; rw [if_neg a]
      have f2 : ¬ lqD N0 rt t x = true := fun z => a (of_decide_eq_true z).1
      have f3 : ¬ lqX N0 rt t x = true := fun z => a (of_decide_eq_true z).1.1
      have f4 : ¬ lqR N0 rt t x = true := fun z => a (of_decide_eq_true z).1
      obtain ⟨c', r1, r2, r3, r4, r5, r6, r7, r8⟩ := rDL_ls (rt := rt) ht n (p + 1) (c0 + 1) N m (pre ++ [x]) ys (by omega) (by omega) h3 h0 (by rw [List.length_append, hp]; rfl) hy (by rw [hl, List.append_assoc]; rfl)
      rw [List.filterMap_cons_some f1, List.countP_cons_of_neg f2, List.countP_cons_of_neg f3, List.countP_cons_of_neg f4]
      exact ⟨c', by rw [r1, List.length_cons]; omega, by omega, r3, by rw [r4, List.append_assoc]; rfl, r5, r6, r7, r8⟩
/-- the class's walk, last to first: the row and the number of letters -/
def gSd (rt : Int32) (t : Nat) : Nat → (Nat → Int32) → Nat → (Nat → Int32) × Nat
  | 0, N, c => (N, c)
  | i + 1, N, c => if N (62 + 7 * i + 5) = rt then (if rRoute N (N (62 + 7 * i + 1)) t = rt then gSd rt t i (rLv (upd N 5 (N 5 + nI 1)) i) (c - 1) else if N (62 + 7 * i + 4) + nI 1 = nI 3 then gSd rt t i (rLv (rBk N i) i) (c - 1) else gSd rt t i (rBk N i) c) else gSd rt t i N c
theorem gSd_s {rt : Int32} {t i c : Nat} {N : Nat → Int32} : gSd rt t (i + 1) N c = if N (62 + 7 * i + 5) = rt then (if rRoute N (N (62 + 7 * i + 1)) t = rt then gSd rt t i (rLv (upd N 5 (N 5 + nI 1)) i) (c - 1) else if N (62 + 7 * i + 4) + nI 1 = nI 3 then gSd rt t i (rLv (rBk N i) i) (c - 1) else gSd rt t i (rBk N i) c) else gSd rt t i N c := rfl
theorem lqs_u5 {N : Nat → Int32} {x : Int32} {c : Nat} : lqs (upd N 5 x) c = lqs N c := lqs_cg (fun q q1 q2 => pk_un (by omega))
theorem gSd_ls {N0 : Nat → Int32} {rt : Int32} {t : Nat} (ht : t ≤ 12) : ∀ (i c : Nat) (N : Nat → Int32) (xs post : List lqT), c ≤ 20 → (∀ q, 26 ≤ q → q < 62 → N q = N0 q) → xs.length = i → lqs N c = xs ++ post →
    (gSd rt t i N c).2 = (xs.filterMap (lqF N0 rt t)).length + post.length ∧ lqs (gSd rt t i N c).1 (gSd rt t i N c).2 = xs.filterMap (lqF N0 rt t) ++ post ∧ (gSd rt t i N c).1 5 = N 5 + nI (xs.countP (lqD N0 rt t)) ∧ (gSd rt t i N c).1 6 = N 6 + nI (xs.countP (lqX N0 rt t)) ∧ (gSd rt t i N c).1 7 = N 7 + nI (xs.countP (lqR N0 rt t)) ∧ ∀ q, q < 62 → q ≠ 3 → q ≠ 5 → q ≠ 6 → q ≠ 7 → (gSd rt t i N c).1 q = N q
  | 0, c, N, xs, post, hc, h0, hx, hl => by
    obtain rfl := List.length_eq_zero_iff.mp hx
    have hcl := congrArg List.length hl
    rw [lqs_len, List.nil_append] at hcl
    exact ⟨by rw [← hcl]; simp [gSd], hl, (a_n0 _).symm, (a_n0 _).symm, (a_n0 _).symm, fun _ _ _ _ _ _ => rfl⟩
  | i + 1, c, N, xs, post, hc, h0, hx, hl => by
    obtain ⟨ys, x, rfl⟩ : ∃ ys x, xs = ys ++ [x] := by
      rcases List.eq_nil_or_concat xs with e | ⟨ys, x, e⟩
      · rw [e] at hx; cases hx
      · exact ⟨ys, x, by rw [e, List.concat_eq_append]⟩
    have hy : ys.length = i := by
      rw [List.length_append] at hx
      exact Nat.succ.inj hx
    have hcl := congrArg List.length hl
    rw [lqs_len, List.length_append, List.length_append] at hcl
    have h1 : [x].length = 1 := rfl
    rw [List.append_assoc] at hl
    have hl2 : lqs N c = ys ++ x :: post := hl
    have ex : lqN N i = x := by
      have := lqs_get (N := N) (c := c) (i := i) (by omega)
      rw [hl2, get_mid hy] at this
      exact (Option.some.inj this).symm
    have e4 : N (62 + 7 * i + 4) = x.2.2.2.2.1 := by rw [← ex]; rfl
    have e5 : N (62 + 7 * i + 5) = x.2.2.2.2.2.1 := by rw [← ex]; rfl
    have er : rRoute N (N (62 + 7 * i + 1)) t = rRoute N0 x.2.1 t := by rw [rRoute_cg ht h0, ← ex]; rfl
    obtain ⟨c0, rfl⟩ : ∃ c0, c = c0 + 1 := ⟨c - 1, by omega⟩
    rw [gSd_s, e5, er, e4, Nat.add_sub_cancel, List.filterMap_append, List.countP_append, List.countP_append, List.countP_append]
    by_cases a : x.2.2.2.2.2.1 = rt
    · rw [if_pos a]
      by_cases b : rRoute N0 x.2.1 t = rt
      · rw [if_pos b]
        obtain ⟨r1, r2, r3, r4, r5, r6⟩ := gSd_ls (rt := rt) ht i c0 (rLv (upd N 5 (N 5 + nI 1)) i) ys post (by omega) (fun q q1 q2 => ((rLv_k (by omega) (by omega)).trans (pk_un (by omega))).trans (h0 q q1 q2)) hy (by rw [lqs_rLv (by omega) (by omega), lqs_u5, hl2, er_mid hy])
        have f1 : lqF N0 rt t x = none := by unfold lqF; rw [if_pos a, if_pos b]
        have f2 : lqD N0 rt t x = true := decide_eq_true ⟨a, b⟩
        have f3 : ¬ lqX N0 rt t x = true := fun z => (of_decide_eq_true z).1.2 b
        have f4 : ¬ lqR N0 rt t x = true := fun z => (of_decide_eq_true z).2 b
        rw [List.filterMap_cons_none f1, List.countP_cons_of_pos f2, List.countP_cons_of_neg f3, List.countP_cons_of_neg f4]
        simp only [List.filterMap_nil, List.append_nil, List.countP_nil, Nat.add_zero, Nat.zero_add]
        exact ⟨r1, r2, by rw [r3, rLv_k (by omega) (by omega), pk_us, nI_as], by rw [r4, rLv_k (by omega) (by omega), pk_un (by omega)], by rw [r5, rLv_k (by omega) (by omega), pk_un (by omega)], fun q q1 q2 q3 q4 q5 => ((r6 q q1 q2 q3 q4 q5).trans (rLv_k (by omega) q2)).trans (pk_un q3)⟩
      · rw [if_neg b]
        have f2 : ¬ lqD N0 rt t x = true := fun z => b (of_decide_eq_true z).2
        have f4 : lqR N0 rt t x = true := decide_eq_true ⟨a, b⟩
        by_cases d : x.2.2.2.2.1 + nI 1 = nI 3
        · rw [if_pos d]
          obtain ⟨r1, r2, r3, r4, r5, r6⟩ := gSd_ls (rt := rt) ht i c0 (rLv (rBk N i) i) ys post (by omega) (fun q q1 q2 => ((rLv_k (by omega) (by omega)).trans (rBk_k (by omega) (by omega) (by omega))).trans (h0 q q1 q2)) hy (by rw [lqs_rLv (by omega) (by omega), lqs_rBk (by omega), hl2, set_mid hy, er_mid hy])
          have f1 : lqF N0 rt t x = none := by unfold lqF; rw [if_pos a, if_neg b, if_pos d]
          have f3 : lqX N0 rt t x = true := decide_eq_true ⟨⟨a, b⟩, d⟩
          rw [List.filterMap_cons_none f1, List.countP_cons_of_neg f2, List.countP_cons_of_pos f3, List.countP_cons_of_pos f4]
          simp only [List.filterMap_nil, List.append_nil, List.countP_nil, Nat.add_zero, Nat.zero_add]
          exact ⟨r1, r2, by rw [r3, rLv_k (by omega) (by omega), rBk_k (by omega) (by omega) (by omega)], by rw [r4, rLv_k (by omega) (by omega), rBk_6, e4, if_pos d, nI_as], by rw [r5, rLv_k (by omega) (by omega), rBk_7, nI_as], fun q q1 q2 q3 q4 q5 => ((r6 q q1 q2 q3 q4 q5).trans (rLv_k (by omega) q2)).trans (rBk_k q1 q4 q5)⟩
        · rw [if_neg d]
          have f1 : lqF N0 rt t x = some (lqB x) := by unfold lqF; rw [if_pos a, if_neg b, if_neg d]
          have f3 : ¬ lqX N0 rt t x = true := fun z => d (of_decide_eq_true z).2
          obtain ⟨r1, r2, r3, r4, r5, r6⟩ := gSd_ls (rt := rt) ht i (c0 + 1) (rBk N i) ys (lqB x :: post) (by omega) (fun q q1 q2 => (rBk_k (by omega) (by omega) (by omega)).trans (h0 q q1 q2)) hy (by rw [lqs_rBk (by omega), hl2, set_mid hy, ex])
          rw [List.filterMap_cons_some f1, List.countP_cons_of_neg f2, List.countP_cons_of_neg f3, List.countP_cons_of_pos f4]
          simp only [List.filterMap_nil, List.countP_nil, Nat.add_zero, Nat.zero_add]
          exact ⟨by rw [r1, List.length_append, List.length_cons]; simp; omega, by rw [r2, List.append_assoc]; rfl, by rw [r3, rBk_k (by omega) (by omega) (by omega)], by rw [r4, rBk_6, e4, if_neg d, a_n0], by rw [r5, rBk_7, nI_as], fun q q1 q2 q3 q4 q5 => (r6 q q1 q2 q3 q4 q5).trans (rBk_k q1 q4 q5)⟩
    · rw [if_neg a]
      have f1 : lqF N0 rt t x = some x := by unfold lqF; rw [if_neg a]
      have f2 : ¬ lqD N0 rt t x = true := fun z => a (of_decide_eq_true z).1
      have f3 : ¬ lqX N0 rt t x = true := fun z => a (of_decide_eq_true z).1.1
      have f4 : ¬ lqR N0 rt t x = true := fun z => a (of_decide_eq_true z).1
      obtain ⟨r1, r2, r3, r4, r5, r6⟩ := gSd_ls (rt := rt) ht i (c0 + 1) N ys (x :: post) (by omega) h0 hy hl2
      rw [List.filterMap_cons_some f1, List.countP_cons_of_neg f2, List.countP_cons_of_neg f3, List.countP_cons_of_neg f4]
      simp only [List.filterMap_nil, List.countP_nil, Nat.add_zero]
      exact ⟨by rw [r1, List.length_append, List.length_cons]; simp; omega, by rw [r2, List.append_assoc]; rfl, r3, r4, r5, r6⟩
/-- both walks leave the same office -/
theorem gSd_rDE {N : Nat → Int32} {r c t : Nat} (hr : r ≤ 5) (hc : c ≤ 20) (ht : t ≤ 12) (h3 : N 3 = nI c) :
    (gSd (nI r) t c (upd N (8 + 3 * r + 2) (nI 0)) c).2 ≤ c ∧ rDE (nI r) (rDL (nI r) t c N 0 (nI 0)) 3 = nI (gSd (nI r) t c (upd N (8 + 3 * r + 2) (nI 0)) c).2 ∧ (∀ q, gRel (gSd (nI r) t c (upd N (8 + 3 * r + 2) (nI 0)) c).2 t q → (gSd (nI r) t c (upd N (8 + 3 * r + 2) (nI 0)) c).1 q = rDE (nI r) (rDL (nI r) t c N 0 (nI 0)) q) ∧ lqs (rDE (nI r) (rDL (nI r) t c N 0 (nI 0))) (gSd (nI r) t c (upd N (8 + 3 * r + 2) (nI 0)) c).2 = (lqs N c).filterMap (lqF N (nI r) t) ∧ (gSd (nI r) t c (upd N (8 + 3 * r + 2) (nI 0)) c).2 = ((lqs N c).filterMap (lqF N (nI r) t)).length ∧ rDE (nI r) (rDL (nI r) t c N 0 (nI 0)) 5 = N 5 + (rDL (nI r) t c N 0 (nI 0)).2 ∧ (rDL (nI r) t c N 0 (nI 0)).2 = nI ((lqs N c).countP (lqD N (nI r) t)) ∧ rDE (nI r) (rDL (nI r) t c N 0 (nI 0)) 6 = N 6 + nI ((lqs N c).countP (lqX N (nI r) t)) ∧ (∀ q, q < 62 → q ≠ 3 → q ≠ 5 → q ≠ 6 → q ≠ 7 → q ≠ 8 + 3 * r + 2 → rDE (nI r) (rDL (nI r) t c N 0 (nI 0)) q = N q) ∧ rDE (nI r) (rDL (nI r) t c N 0 (nI 0)) (8 + 3 * r + 2) = nI 0 := by
  obtain ⟨c', a1, a2, a3, a4, a5, a6, a7, a8⟩ := rDL_ls (N0 := N) (rt := nI r) ht c 0 c N (nI 0) [] (lqs N c) (by omega) hc h3 (fun _ _ _ => rfl) rfl lqs_len rfl
  obtain ⟨b1, b2, b3, b4, b5, b6⟩ := gSd_ls (N0 := N) (rt := nI r) ht c c (upd N (8 + 3 * r + 2) (nI 0)) (lqs N c) [] hc (fun q q1 q2 => pk_un (by omega)) lqs_len (by rw [List.append_nil]; exact lqs_cg (fun q q1 q2 => pk_un (by omega)))
  rw [List.append_nil] at b2
  rw [Nat.zero_add] at a1
  have ec : c' = (gSd (nI r) t c (upd N (8 + 3 * r + 2) (nI 0)) c).2 := a1.trans b1.symm
  have z0 : nI 0 + nI ((lqs N c).countP (lqD N (nI r) t)) = nI ((lqs N c).countP (lqD N (nI r) t)) := by rw [nI_add, Nat.zero_add]
  have ix := rIx_nI hr
  have k : ∀ q, q ≠ 5 → q ≠ 8 + 3 * r + 2 → rDE (nI r) (rDL (nI r) t c N 0 (nI 0)) q = (rDL (nI r) t c N 0 (nI 0)).1 q := fun q q1 q2 => by
    unfold rDE
    rw [pk_un q1, ix, pk_un q2]
  have k5 : rDE (nI r) (rDL (nI r) t c N 0 (nI 0)) 5 = N 5 + (rDL (nI r) t c N 0 (nI 0)).2 := by
    unfold rDE
    rw [pk_us, ix, pk_un (by omega), a8 5 (by omega) (by omega) (by omega) (by omega)]
  have kO : rDE (nI r) (rDL (nI r) t c N 0 (nI 0)) (8 + 3 * r + 2) = nI 0 := by
    unfold rDE
    rw [pk_un (by omega), ix, pk_us]
  rw [← ec]
  have kl : lqs (rDE (nI r) (rDL (nI r) t c N 0 (nI 0))) c' = (lqs N c).filterMap (lqF N (nI r) t) := (lqs_cg (fun q q1 q2 => k q (by omega) (by omega))).trans a4
  refine ⟨a2, by rw [k 3 (by omega) (by omega)]; exact a3, fun q hq => ?_, kl, a1, k5, by rw [a5, z0], by rw [k 6 (by omega) (by omega)]; exact a6, fun q q1 q2 q3 q4 q5 q6 => (k q q3 q6).trans (a8 q q1 q2 q4 q5), kO⟩
  unfold gRel at hq
  by_cases hb : 62 ≤ q
  · exact lqs_eq (c := c') (by rw [kl, ec]; exact b2) q hb (by omega)
  · by_cases h5 : q = 5
    · subst h5
      rw [b3, k5, pk_un (by omega), a5, z0]
    · by_cases hO : q = 8 + 3 * r + 2
      · subst hO
        rw [b6 _ (by omega) (by omega) (by omega) (by omega) (by omega), kO, pk_us]
      · rw [k q h5 hO]
        by_cases h6 : q = 6
        · subst h6
          rw [b4, a6, pk_un (by omega)]
        · by_cases h7 : q = 7
          · subst h7
            rw [b5, a7, pk_un (by omega)]
          · rw [b6 q (by omega) (by omega) h5 h6 h7, a8 q (by omega) (by omega) h6 h7, pk_un hO]
end GLq
