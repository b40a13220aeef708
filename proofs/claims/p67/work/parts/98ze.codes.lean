/-! THE CODES OF A ROUTE, COUNTED; THE LONGEST PREFIX -/
section Gms
def zS (f : Nat → Int) : Nat → Int
  | 0 => 0
  | n + 1 => zS f n + f n
theorem zS_s {f : Nat → Int} {n : Nat} : zS f (n + 1) = zS f n + f n := rfl
theorem zS_cg {f g : Nat → Int} : ∀ {n : Nat}, (∀ i, i < n → f i = g i) → zS f n = zS g n
  | 0, _ => rfl
  | n + 1, h => by
    rw [zS_s, zS_s, zS_cg (n := n) (fun i hi => h i (by omega)), h n (by omega)]
theorem zS_add {f g : Nat → Int} : ∀ n : Nat, zS (fun i => f i + g i) n = zS f n + zS g n
  | 0 => rfl
  | n + 1 => by
    rw [zS_s, zS_s, zS_s, zS_add n]
    omega
theorem zS_0 : ∀ n : Nat, zS (fun _ => 0) n = 0
  | 0 => rfl
  | n + 1 => by
    rw [zS_s, zS_0 n]
    rfl
theorem zS_z {f : Nat → Int} {n : Nat} (h : ∀ i, i < n → f i = 0) : zS f n = 0 := (zS_cg h).trans (zS_0 n)
theorem zS_swap {f : Nat → Nat → Int} {m : Nat} : ∀ n : Nat, zS (fun i => zS (fun j => f i j) m) n = zS (fun j => zS (fun i => f i j) n) m
  | 0 => (zS_0 m).symm
  | n + 1 => by
    rw [zS_s, zS_swap n, ← zS_add]
    rfl
theorem blk_iff {b d n : Nat} (hb : 0 < b) : n / b = d ↔ d * b ≤ n ∧ n < d * b + b := by
  have h1 : d ≤ n / b ↔ d * b ≤ n := Nat.le_div_iff_mul_le hb
  have h2 : n / b < d + 1 ↔ n < (d + 1) * b := Nat.div_lt_iff_lt_mul hb
  rw [Nat.succ_mul] at h2
  omega
theorem zS_blk {b d : Nat} {v : Int} (hb : 0 < b) : ∀ n : Nat, zS (fun c => if c / b = d then v else 0) n = ((min n (d * b + b) - min n (d * b) : Nat) : Int) * v
  | 0 => by
    rw [Nat.zero_min, Nat.zero_min]
    exact (Int.zero_mul v).symm
  | n + 1 => by
    rw [zS_s, zS_blk hb n]
    have e := blk_iff (d := d) (n := n) hb
    by_cases h : n / b = d
    · obtain ⟨h1, h2⟩ := e.mp h
      have : min (n + 1) (d * b + b) - min (n + 1) (d * b) = min n (d * b + b) - min n (d * b) + 1 := by omega
      rw [this, if_pos h]
      show _ = ((min n (d * b + b) - min n (d * b) : Nat) + 1 : Int) * v
      rw [Int.add_mul, Int.one_mul]
    · have : min (n + 1) (d * b + b) - min (n + 1) (d * b) = min n (d * b + b) - min n (d * b) := by
        have := (not_congr e).mp h
        omega
      rw [this, if_neg h, Int.add_zero]
end Gms
section Gcd
variable {N : Nat → Int32} {t cd : Nat} {rt : Int32}
def pvD (N : Nat → Int32) (i : Nat) : Nat := (N (26 + 3 * i)).toNatClampNeg
def pvL (N : Nat → Int32) (i : Nat) : Nat := (N (26 + 3 * i + 1)).toNatClampNeg
theorem pv_at (hv : rPv N t) {i : Nat} (hi : i < t) : N (26 + 3 * i) = nI (pvD N i) ∧ N (26 + 3 * i + 1) = nI (pvL N i) ∧ 1 ≤ pvL N i ∧ pvL N i ≤ 4 ∧ pvD N i < 10 ^ pvL N i ∧ ∃ r, r ≤ 5 ∧ N (26 + 3 * i + 2) = nI r := by
  obtain ⟨dg, ln, r, e1, e2, e3, h1, h2, h3, h4⟩ := hv i hi
  have hdl : dg < 10000 := by
    have : ln = 1 ∨ ln = 2 ∨ ln = 3 ∨ ln = 4 := by omega
    rcases this with rfl | rfl | rfl | rfl <;> (simp only [Nat.reducePow] at h3; omega)
  have d1 : pvD N i = dg := by unfold pvD; rw [e1, nI_clamp (by omega)]
  have d2 : pvL N i = ln := by unfold pvL; rw [e2, nI_clamp (by omega)]
  rw [d1, d2]
  exact ⟨e1, e2, h1, h2, h3, r, h4, e3⟩
theorem pv_uq (hv : rPv N t) (hu : rUp N t) {i j : Nat} (hij : i < j) (hj : j < t) : ¬ (pvL N i = pvL N j ∧ pvD N i = pvD N j) := fun z => by
  obtain ⟨a1, a2, -⟩ := pv_at hv (show i < t by omega)
  obtain ⟨b1, b2, -⟩ := pv_at hv hj
  exact hu i j hij hj ⟨by rw [a1, b1, z.2], by rw [a2, b2, z.1]⟩
theorem pv_n1 (hv : rPv N t) {i : Nat} (hi : i < t) : ¬ N (26 + 3 * i + 2) = -1 := by
  obtain ⟨-, -, -, -, -, r, hr, e⟩ := pv_at hv hi
  rw [e]
  exact nI_nm1 (by omega)
theorem lk_s {i l v : Nat} : lkN N (i + 1) l v = if l = pvL N i ∧ v = pvD N i then N (26 + 3 * i + 2) else lkN N i l v := rfl
theorem lk_no {l v : Nat} : ∀ {i : Nat}, (∀ j, j < i → ¬ (l = pvL N j ∧ v = pvD N j)) → lkN N i l v = -1
  | 0, _ => rfl
  | i + 1, h => by
    rw [lk_s, if_neg (h i (by omega))]
    exact lk_no (fun j hj => h j (by omega))
theorem lk_yes (hv : rPv N t) (hu : rUp N t) {l v : Nat} : ∀ {i : Nat}, i ≤ t → ∀ j, j < i → l = pvL N j → v = pvD N j → lkN N i l v = N (26 + 3 * j + 2)
  | 0, _, j, hj, _, _ => by omega
  | i + 1, hi, j, hj, e1, e2 => by
    rw [lk_s]
    by_cases z : j = i
    · subst z
      rw [if_pos ⟨e1, e2⟩]
    · rw [if_neg (fun w => pv_uq hv hu (show j < i by omega) (by omega) ⟨e1.symm.trans w.1, e2.symm.trans w.2⟩)]
      exact lk_yes hv hu (by omega) j (by omega) e1 e2
/-- a prefix stands in the table where a look finds its route -/
theorem find_lk (ht : t ≤ 12) (hv : rPv N t) {d l : Nat} (hd : d < 2 ^ 31) (hl : l < 2 ^ 31) : ∀ i, i ≤ t → (rFind N (nI d) (nI l) i = -1 ↔ lkN N i l d = -1)
  | 0, _ => ⟨fun _ => rfl, fun _ => rfl⟩
  | i + 1, hi => by
    obtain ⟨a1, a2, -, a3, a4, -⟩ := pv_at hv (show i < t by omega)
    have ih := find_lk ht hv hd hl i (by omega)
    have hdl : pvD N i < 10000 := Nat.lt_of_lt_of_le a4 (Nat.le_trans (Nat.pow_le_pow_right (by decide) a3) (Nat.le_of_ble_eq_true rfl))
    have e : (N (26 + 3 * i) = nI d ∧ N (26 + 3 * i + 1) = nI l) ↔ (l = pvL N i ∧ d = pvD N i) := by
      rw [a1, a2, nI_eq (by omega) hd, nI_eq (by omega) hl]
      omega
    rw [lk_s]
    show (if N (26 + 3 * i) = nI d ∧ N (26 + 3 * i + 1) = nI l then nI i else rFind N (nI d) (nI l) i) = -1 ↔ _
    by_cases z : l = pvL N i ∧ d = pvD N i
    · rw [if_pos (e.mpr z), if_pos z]
      exact ⟨fun y => absurd y (nI_nm1 (by omega)), fun y => absurd y (pv_n1 hv (by omega))⟩
    · rw [if_neg (fun y => z (e.mp y)), if_neg z]
      exact ih
/-- the longest match no longer than M -/
theorem match_lk (ht : t ≤ 12) (hv : rPv N t) (hu : rUp N t) (hc : cd < 10000) {M : Nat} (hM : M ≤ 4) : ∀ i, i ≤ t → (rMatch N (nI cd) (nI 4) (nI M) i = -1 ∧ ∀ l, 1 ≤ l → l ≤ M → lkN N i l (cd / 10 ^ (4 - l)) = -1) ∨ ∃ k L, k < i ∧ rMatch N (nI cd) (nI 4) (nI M) i = nI k ∧ 1 ≤ L ∧ L ≤ M ∧ N (26 + 3 * k + 1) = nI L ∧ lkN N i L (cd / 10 ^ (4 - L)) = N (26 + 3 * k + 2) ∧ (∀ l, L < l → l ≤ M → lkN N i l (cd / 10 ^ (4 - l)) = -1) ∧ N (26 + 3 * k) = nI (cd / 10 ^ (4 - L))
  | 0, _ => Or.inl ⟨rfl, fun _ _ _ => rfl⟩
  | i + 1, hi => by
    have ih := match_lk ht hv hu hc hM i (by omega)
    obtain ⟨e1, e2, h1, h2, h3, -⟩ := pv_at hv (show i < t by omega)
    obtain ⟨dg, edg⟩ : ∃ z, pvD N i = z := ⟨_, rfl⟩
    obtain ⟨ln, eln⟩ : ∃ z, pvL N i = z := ⟨_, rfl⟩
    rw [edg] at e1 h3
    rw [eln] at e2 h1 h2 h3
    have hdl : dg < 10000 := by
      have : ln = 1 ∨ ln = 2 ∨ ln = 3 ∨ ln = 4 := by omega
      rcases this with rfl | rfl | rfl | rfl <;> (simp only [Nat.reducePow] at h3; omega)
    have hdv : cd / 10 ^ (4 - ln) < 10000 := Nat.lt_of_le_of_lt (Nat.div_le_self _ _) hc
    have hpw : 10 ^ (4 - ln) < 2 ^ 31 ∧ 0 < 10 ^ (4 - ln) := by
      have : ln = 1 ∨ ln = 2 ∨ ln = 3 ∨ ln = 4 := by omega
      rcases this with rfl | rfl | rfl | rfl <;> decide
    have cm : (N (26 + 3 * i + 1) ≤ nI M ∧ nI cd / rTens (rMax (nI 0) (nI 4 - N (26 + 3 * i + 1))) = N (26 + 3 * i)) ↔ (ln ≤ M ∧ cd / 10 ^ (4 - ln) = dg) := by
      rw [e1, e2, nI_subN h2, rMax_0 (by omega), rTens_n (by omega), pk_div (by omega) hpw.2 hpw.1, nI_eq (by omega) (by omega), nI_leI (by omega) (by omega)]
    have no : ¬ (ln ≤ M ∧ cd / 10 ^ (4 - ln) = dg) → ∀ l, l ≤ M → lkN N (i + 1) l (cd / 10 ^ (4 - l)) = lkN N i l (cd / 10 ^ (4 - l)) := fun z l hl => by
      rw [lk_s, edg, eln]
      exact if_neg (fun y => z ⟨by omega, by rw [← y.1]; exact y.2⟩)
    have yes : cd / 10 ^ (4 - ln) = dg → lkN N (i + 1) ln (cd / 10 ^ (4 - ln)) = N (26 + 3 * i + 2) := fun z => by
      rw [lk_s, edg, eln]
      exact if_pos ⟨rfl, z⟩
    have oth : ∀ l, l ≠ ln → lkN N (i + 1) l (cd / 10 ^ (4 - l)) = lkN N i l (cd / 10 ^ (4 - l)) := fun l z => by
      rw [lk_s, edg, eln]
      exact if_neg (fun y => z y.1)
    rw [rMatch_s]
    by_cases m : ln ≤ M ∧ cd / 10 ^ (4 - ln) = dg
    · rcases ih with ⟨a1, a2⟩ | ⟨k, L, b1, b2, b3, b4, b5, b7, b8, b6⟩
      · rw [if_pos ⟨cm.mpr m, Or.inl a1⟩]
        exact Or.inr ⟨i, ln, by omega, rfl, h1, m.1, e2, yes m.2, fun l l1 l2 => (oth l (by omega)).trans (a2 l (by omega) l2), by rw [m.2]; exact e1⟩
      · have hne : ¬ ln = L := fun z => by
          subst z
          exact hu k i b1 (by omega) ⟨by rw [b6, e1, m.2], by rw [b5, e2]⟩
        by_cases q : L < ln
        · rw [if_pos ⟨cm.mpr m, Or.inr (by rw [b2, nI_clamp (by omega), b5, e2]; exact nI_lt q (by omega))⟩]
          exact Or.inr ⟨i, ln, by omega, rfl, h1, m.1, e2, yes m.2, fun l l1 l2 => (oth l (by omega)).trans (b8 l (by omega) l2), by rw [m.2]; exact e1⟩
        · rw [if_neg (fun z => by
            rcases z.2 with y | y
            · rw [b2] at y; exact nI_nm1 (by omega) y
            · rw [b2, nI_clamp (by omega), b5, e2] at y
              exact absurd ((nI_ltI (by omega) (by omega)).mp y) q)]
          exact Or.inr ⟨k, L, by omega, b2, b3, b4, b5, (oth L (by omega)).trans b7, fun l l1 l2 => (oth l (by omega)).trans (b8 l l1 l2), b6⟩
    · rw [if_neg (fun z => m (cm.mp z.1))]
      rcases ih with ⟨a1, a2⟩ | ⟨k, L, b1, b2, b3, b4, b5, b7, b8, b6⟩
      · exact Or.inl ⟨a1, fun l l1 l2 => (no m l l2).trans (a2 l l1 l2)⟩
      · exact Or.inr ⟨k, L, by omega, b2, b3, b4, b5, (no m L b4).trans b7, fun l l1 l2 => (no m l l2).trans (b8 l l1 l2), b6⟩
/-- the route of a match -/
theorem pto_bst (ht : t ≤ 12) (hv : rPv N t) (hu : rUp N t) (hc : cd < 10000) {M : Nat} (hM : M ≤ 4) : (rMatch N (nI cd) (nI 4) (nI M) t = -1 ∧ bst (lkN N t) cd M = -1) ∨ (¬ rMatch N (nI cd) (nI 4) (nI M) t = -1 ∧ bst (lkN N t) cd M = N (26 + 3 * (rMatch N (nI cd) (nI 4) (nI M) t).toNatClampNeg + 2)) := by
  rcases match_lk ht hv hu hc hM t (Nat.le_refl _) with ⟨a1, a2⟩ | ⟨k, L, b1, b2, b3, b4, b5, b7, b8, b6⟩
  · refine Or.inl ⟨a1, ?_⟩
    have := bst_st (lo := lkN N t) (cd := cd) (j := 0) M (by omega) (fun l l1 l2 => a2 l (by omega) (by omega))
    rw [Nat.zero_add] at this
    exact this
  · refine Or.inr ⟨by rw [b2]; exact nI_nm1 (by omega), ?_⟩
    rw [b2, nI_clamp (by omega)]
    have := bst_st (lo := lkN N t) (cd := cd) (j := L) (M - L) (by omega) (fun l l1 l2 => b8 l l1 (by omega))
    rw [show L + (M - L) = M by omega] at this
    rw [this]
    obtain ⟨j, rfl⟩ : ∃ j, L = j + 1 := ⟨L - 1, by omega⟩
    rw [bst_s, show 3 - j = 4 - (j + 1) by omega, b7, if_neg (pv_n1 hv b1)]
/-- the length of the longest prefix, by looking from the longest on -/
def lnt (N : Nat → Int32) (t cd : Nat) : Nat := if lkN N t 4 cd = -1 then (if lkN N t 3 (cd / 10) = -1 then (if lkN N t 2 (cd / 100) = -1 then (if lkN N t 1 (cd / 1000) = -1 then 0 else 1) else 2) else 3) else 4
theorem ml_lnt (ht : t ≤ 12) (hv : rPv N t) (hu : rUp N t) (hc : cd < 10000) : rML N (nI cd) t = nI (lnt N t cd) ∧ (rRoute N (nI cd) t = -1 ↔ lnt N t cd = 0) := by
  have e4 : cd / 10 ^ (4 - 4) = cd := Nat.div_one cd
  have e3 : cd / 10 ^ (4 - 3) = cd / 10 := rfl
  have e2 : cd / 10 ^ (4 - 2) = cd / 100 := rfl
  have e1 : cd / 10 ^ (4 - 1) = cd / 1000 := rfl
  unfold rML rRoute
  rcases rMatch_lk ht hv hu hc t (Nat.le_refl _) with ⟨a1, a2⟩ | ⟨k, L, b1, b2, b3, b4, b5, b6, b7, b8⟩
  · have z4 := a2 4 (by omega) (by omega)
    have z3 := a2 3 (by omega) (by omega)
    have z2 := a2 2 (by omega) (by omega)
    have z1 := a2 1 (by omega) (by omega)
    rw [e4] at z4
    rw [e3] at z3
    rw [e2] at z2
    rw [e1] at z1
    rw [if_pos a1, if_pos a1]
    unfold lnt
    rw [if_pos z4, if_pos z3, if_pos z2, if_pos z1]
    exact ⟨rfl, fun _ => rfl, fun _ => rfl⟩
  · have hn := pv_n1 hv b1
    rw [b2, if_neg (nI_nm1 (by omega)), if_neg (nI_nm1 (by omega)), nI_clamp (by omega), b5]
    have : lnt N t cd = L := by
      unfold lnt
      rcases (by omega : L = 1 ∨ L = 2 ∨ L = 3 ∨ L = 4) with rfl | rfl | rfl | rfl
      · have z4 := b8 4 (by omega) (by omega)
        have z3 := b8 3 (by omega) (by omega)
        have z2 := b8 2 (by omega) (by omega)
        rw [e4] at z4
        rw [e3] at z3
        rw [e2] at z2
        rw [e1] at b7
        rw [if_pos z4, if_pos z3, if_pos z2, if_neg (by rw [b7]; exact hn)]
      · have z4 := b8 4 (by omega) (by omega)
        have z3 := b8 3 (by omega) (by omega)
        rw [e4] at z4
        rw [e3] at z3
        rw [e2] at b7
        rw [if_pos z4, if_pos z3, if_neg (by rw [b7]; exact hn)]
      · have z4 := b8 4 (by omega) (by omega)
        rw [e4] at z4
        rw [e3] at b7
        rw [if_pos z4, if_neg (by rw [b7]; exact hn)]
      · rw [e4] at b7
        rw [if_neg (by rw [b7]; exact hn)]
    rw [this]
    exact ⟨rfl, fun y => absurd y hn, fun y => by omega⟩
/-- a route against another, as a number -/
def dlt (rt x : Int32) : Int := if x = rt then 1 else 0
theorem uq_sum (hv : rPv N t) (hu : rUp N t) {y : Int} {l v : Nat} : ∀ i, i ≤ t → zS (fun j => if l = pvL N j ∧ v = pvD N j then dlt rt (N (26 + 3 * j + 2)) - y else 0) i = if lkN N i l v = -1 then 0 else dlt rt (lkN N i l v) - y
  | 0, _ => (if_pos rfl).symm
  | i + 1, hi => by
    rw [zS_s, uq_sum hv hu i (by omega), lk_s]
    by_cases z : l = pvL N i ∧ v = pvD N i
    · have h0 : lkN N i l v = -1 := lk_no (fun j hj w => pv_uq hv hu hj (by omega) ⟨w.1.symm.trans z.1, w.2.symm.trans z.2⟩)
      rw [if_pos z, if_pos z, h0, if_pos rfl, if_neg (pv_n1 hv (by omega)), Int.zero_add]
    · rw [if_neg z, if_neg z, Int.add_zero]
theorem tel (hv : rPv N t) (hu : rUp N t) (hr : ¬ rt = -1) : ∀ j, j ≤ 4 → dlt rt (bst (lkN N t) cd j) = zS (fun i => if pvL N i ≤ j ∧ cd / 10 ^ (4 - pvL N i) = pvD N i then dlt rt (N (26 + 3 * i + 2)) - dlt rt (bst (lkN N t) cd (pvL N i - 1)) else 0) t
  | 0, _ => by
    rw [zS_z (fun i hi => if_neg (fun z => by have := (pv_at hv hi).2.2.1; omega))]
    exact if_neg (fun z => hr z.symm)
  | j + 1, hj => by
    have e : ∀ i, i < t → (if pvL N i ≤ j + 1 ∧ cd / 10 ^ (4 - pvL N i) = pvD N i then dlt rt (N (26 + 3 * i + 2)) - dlt rt (bst (lkN N t) cd (pvL N i - 1)) else 0) = (if pvL N i ≤ j ∧ cd / 10 ^ (4 - pvL N i) = pvD N i then dlt rt (N (26 + 3 * i + 2)) - dlt rt (bst (lkN N t) cd (pvL N i - 1)) else 0) + (if j + 1 = pvL N i ∧ cd / 10 ^ (3 - j) = pvD N i then dlt rt (N (26 + 3 * i + 2)) - dlt rt (bst (lkN N t) cd j) else 0) := fun i hi => by
      by_cases z : pvL N i ≤ j
      · rw [if_neg (show ¬ (j + 1 = pvL N i ∧ cd / 10 ^ (3 - j) = pvD N i) by omega), Int.add_zero]
        by_cases w : cd / 10 ^ (4 - pvL N i) = pvD N i
        · rw [if_pos ⟨by omega, w⟩, if_pos ⟨z, w⟩]
        · rw [if_neg (fun y => w y.2), if_neg (fun y => w y.2)]
      · rw [if_neg (show ¬ (pvL N i ≤ j ∧ cd / 10 ^ (4 - pvL N i) = pvD N i) from fun y => z y.1), Int.zero_add]
        by_cases q : pvL N i = j + 1
        · rw [q, show 4 - (j + 1) = 3 - j by omega, show j + 1 - 1 = j from rfl]
          by_cases w : cd / 10 ^ (3 - j) = pvD N i
          · rw [if_pos ⟨Nat.le_refl _, w⟩, if_pos ⟨rfl, w⟩]
          · rw [if_neg (fun y => w y.2), if_neg (fun y => w y.2)]
        · rw [if_neg (fun y => by omega), if_neg (fun y => by omega)]
    rw [zS_cg e, zS_add, ← tel hv hu hr j (by omega), uq_sum hv hu t (Nat.le_refl _), bst_s]
    by_cases z : lkN N t (j + 1) (cd / 10 ^ (3 - j)) = -1
    · rw [if_pos z, if_pos z, Int.add_zero]
    · rw [if_neg z, if_neg z]
      omega
/-- routes by shorter prefixes are the same all over a prefix -/
theorem bst_blk {lo : Nat → Nat → Int32} {cd ce ln : Nat} (hl : ln ≤ 4) (e : cd / 10 ^ (4 - ln) = ce / 10 ^ (4 - ln)) : ∀ j, j ≤ ln → bst lo cd j = bst lo ce j
  | 0, _ => rfl
  | j + 1, hj => by
    have q : cd / 10 ^ (3 - j) = ce / 10 ^ (3 - j) := by
      rw [show 3 - j = (4 - ln) + (ln - (j + 1)) by omega, Nat.pow_add, ← Nat.div_div_eq_div_mul, ← Nat.div_div_eq_div_mul, e]
    rw [bst_s, bst_s, q, bst_blk hl e j (by omega)]
def gG (N : Nat → Int32) (t : Nat) (rt : Int32) (i : Nat) : Int := ((10 ^ (4 - pvL N i) : Nat) : Int) * (dlt rt (N (26 + 3 * i + 2)) - dlt rt (bst (lkN N t) (pvD N i * 10 ^ (4 - pvL N i)) (pvL N i - 1)))
theorem all_sum (hv : rPv N t) (hu : rUp N t) (hr : ¬ rt = -1) : zS (fun c => dlt rt (bst (lkN N t) c 4)) 10000 = zS (gG N t rt) t := by
  have e : ∀ c, c < 10000 → dlt rt (bst (lkN N t) c 4) = zS (fun i => if c / 10 ^ (4 - pvL N i) = pvD N i then dlt rt (N (26 + 3 * i + 2)) - dlt rt (bst (lkN N t) (pvD N i * 10 ^ (4 - pvL N i)) (pvL N i - 1)) else 0) t := fun c hc => by
    rw [tel hv hu hr 4 (Nat.le_refl _)]
    refine zS_cg (fun i hi => ?_)
    obtain ⟨-, -, h1, h2, h3, -⟩ := pv_at hv hi
    by_cases w : c / 10 ^ (4 - pvL N i) = pvD N i
    · rw [if_pos ⟨h2, w⟩, if_pos w]
      have : c / 10 ^ (4 - pvL N i) = pvD N i * 10 ^ (4 - pvL N i) / 10 ^ (4 - pvL N i) := by rw [w, Nat.mul_div_cancel _ (Nat.pow_pos (by decide))]
      rw [bst_blk h2 this _ (by omega)]
    · rw [if_neg (fun y => w y.2), if_neg w]
  rw [zS_cg e, zS_swap]
  refine zS_cg (fun i hi => ?_)
  obtain ⟨-, -, h1, h2, h3, -⟩ := pv_at hv hi
  rw [zS_blk (Nat.pow_pos (by decide))]
  have hp : pvD N i * 10 ^ (4 - pvL N i) + 10 ^ (4 - pvL N i) ≤ 10000 := by
    have : 10000 = 10 ^ pvL N i * 10 ^ (4 - pvL N i) := by rw [← Nat.pow_add, show pvL N i + (4 - pvL N i) = 4 by omega]
    rw [this, ← Nat.succ_mul]
    exact Nat.mul_le_mul_right _ h3
  rw [Nat.min_eq_right hp, Nat.min_eq_right (Nat.le_trans (Nat.le_add_right _ _) hp), Nat.add_sub_cancel_left]
  rfl
theorem cs_sum (ht : t ≤ 12) (hv : rPv N t) (hu : rUp N t) (hr : ¬ rt = -1) : ∀ i, i ≤ t → rCs N rt t i = Int32.ofInt (zS (gG N t rt) i)
  | 0, _ => rfl
  | i + 1, hi => by
    obtain ⟨e1, e2, h1, h2, h3, -⟩ := pv_at hv (show i < t by omega)
    have hp : pvD N i * 10 ^ (4 - pvL N i) < 10000 := by
      have : 10000 = 10 ^ pvL N i * 10 ^ (4 - pvL N i) := by rw [← Nat.pow_add, show pvL N i + (4 - pvL N i) = 4 by omega]
      rw [this]
      exact Nat.mul_lt_mul_of_pos_right h3 (Nat.pow_pos (by decide))
    have ea : rAb N t i = rMatch N (nI (pvD N i * 10 ^ (4 - pvL N i))) (nI 4) (nI (pvL N i - 1)) t := by
      unfold rAb
      rw [← rAb_eq ht hv h1 h2 h3 (show N (26 + 3 * i + 0) = _ from e1) e2 t (Nat.le_refl _), ← nI_subN h1]
    have et : rTens (nI 4 - N (26 + 3 * i + 1)) = Int32.ofInt ((10 ^ (4 - pvL N i) : Nat) : Int) := by
      rw [e2, nI_subN h2, rTens_n (by omega)]
      exact Int32.ofInt_eq_ofNat.symm
    have ez : nI 0 = Int32.ofInt 0 := by decide
    have e : rCs N rt t (i + 1) = rCs N rt t i + (if N (26 + 3 * i + 2) = rt then rTens (nI 4 - N (26 + 3 * i + 1)) else nI 0) - (if ¬ rAb N t i = -1 ∧ N (26 + 3 * (rAb N t i).toNatClampNeg + 2) = rt then rTens (nI 4 - N (26 + 3 * i + 1)) else nI 0) := rfl
    have hA : (if ¬ rAb N t i = -1 ∧ N (26 + 3 * (rAb N t i).toNatClampNeg + 2) = rt then rTens (nI 4 - N (26 + 3 * i + 1)) else nI 0) = Int32.ofInt (((10 ^ (4 - pvL N i) : Nat) : Int) * dlt rt (bst (lkN N t) (pvD N i * 10 ^ (4 - pvL N i)) (pvL N i - 1))) := by
      unfold dlt
      rcases pto_bst ht hv hu hp (M := pvL N i - 1) (by omega) with ⟨y1, y2⟩ | ⟨y1, y2⟩
      · rw [← ea] at y1
        rw [if_neg (fun z => z.1 y1), y2, if_neg (fun z => hr z.symm), Int.mul_zero, ez]
      · rw [← ea] at y1 y2
        rw [y2]
        by_cases w : N (26 + 3 * (rAb N t i).toNatClampNeg + 2) = rt
        · rw [if_pos ⟨y1, w⟩, if_pos w, Int.mul_one, et]
        · rw [if_neg (fun z => w z.2), if_neg w, Int.mul_zero, ez]
    have hB : (if N (26 + 3 * i + 2) = rt then rTens (nI 4 - N (26 + 3 * i + 1)) else nI 0) = Int32.ofInt (((10 ^ (4 - pvL N i) : Nat) : Int) * dlt rt (N (26 + 3 * i + 2))) := by
      unfold dlt
      by_cases w : N (26 + 3 * i + 2) = rt
      · rw [if_pos w, if_pos w, Int.mul_one, et]
      · rw [if_neg w, if_neg w, Int.mul_zero, ez]
    rw [e, hA, hB, cs_sum ht hv hu hr i (by omega), zS_s, ← Int32.ofInt_add, ← Int32.ofInt_sub]
    unfold gG
    rw [Int.mul_sub, Int.add_sub_assoc]
/-- how many of the first codes have a route -/
def ctR (N : Nat → Int32) (t : Nat) (rt : Int32) : Nat → Nat
  | 0 => 0
  | c + 1 => ctR N t rt c + if rRoute N (nI c) t = rt then 1 else 0
theorem ctR_le : ∀ c, ctR N t rt c ≤ c
  | 0 => Nat.le_refl _
  | c + 1 => by
    show ctR N t rt c + _ ≤ _
    have := ctR_le c
    split <;> omega
theorem ctR_z (ht : t ≤ 12) (hv : rPv N t) (hu : rUp N t) : ∀ c, c ≤ 10000 → ((ctR N t rt c : Nat) : Int) = zS (fun c => dlt rt (bst (lkN N t) c 4)) c
  | 0, _ => rfl
  | c + 1, hc => by
    rw [zS_s, ← ctR_z ht hv hu c (by omega), ← rRoute_bst ht hv hu (by omega)]
    unfold dlt
    show ((ctR N t rt c + (if rRoute N (nI c) t = rt then 1 else 0) : Nat) : Int) = _
    split
    · rfl
    · rfl
theorem codes_of (ht : t ≤ 12) (hv : rPv N t) (hu : rUp N t) (hr : ¬ rt = -1) : rCs N rt t t = nI (ctR N t rt 10000) := by
  rw [cs_sum ht hv hu hr t (Nat.le_refl _), ← all_sum hv hu hr, ← ctR_z ht hv hu 10000 (Nat.le_refl _)]
  exact Int32.ofInt_eq_ofNat
end Gcd
