section S19ref10leantxt
variable {Γ : gE} {o : Nat} {ad : Nat → Nat} {V : Nat → Int32} {F : Nat → Nat → Int32}
def rDL (rt : Int32) (t : Nat) : Nat → (Nat → Int32) → Nat → Int32 → (Nat → Int32) × Int32
  | 0, N, _, m => (N, m)
  | n + 1, N, p, m => if N (62 + 7 * p + 5) = rt then (if rRoute N (N (62 + 7 * p + 1)) t = rt then rDL rt t n (rLv N p) p (m + nI 1) else if N (62 + 7 * p + 4) + nI 1 = nI 3 then rDL rt t n (rLv (rBk N p) p) p m else rDL rt t n (rBk N p) (p + 1) m) else rDL rt t n N (p + 1) m
theorem rDL_s {rt : Int32} {t n p : Nat} {N : Nat → Int32} {m : Int32} : rDL rt t (n + 1) N p m = if N (62 + 7 * p + 5) = rt then (if rRoute N (N (62 + 7 * p + 1)) t = rt then rDL rt t n (rLv N p) p (m + nI 1) else if N (62 + 7 * p + 4) + nI 1 = nI 3 then rDL rt t n (rLv (rBk N p) p) p m else rDL rt t n (rBk N p) (p + 1) m) else rDL rt t n N (p + 1) m := rfl
def rDE (rt : Int32) (R : (Nat → Int32) × Int32) : Nat → Int32 := upd (upd R.1 (8 + 3 * rIx rt + 2) (nI 0)) 5 (upd R.1 (8 + 3 * rIx rt + 2) (nI 0) 5 + R.2)
theorem n1_1 : nI 1 = 1 := by decide
theorem a_n0 (m : Int32) : m + nI 0 = m := by
  rw [show nI 0 = 0 by decide]
  exact Int32.add_zero m
theorem rLv_3 {N : Nat → Int32} {p c : Nat} (h : N 3 = nI (c + 1)) : rLv N p 3 = nI c := by
  unfold rLv
  rw [pk_us, h, n1_1, nI_pred]
theorem rLv_k {N : Nat → Int32} {p q : Nat} (h : q < 62 + 7 * p) (h3 : q ≠ 3) : rLv N p q = N q := by
  unfold rLv
  rw [pk_un h3, rShf_lo h]
theorem rBk_k {N : Nat → Int32} {p q : Nat} (h : q < 62) (h6 : q ≠ 6) (h7 : q ≠ 7) : rBk N p q = N q := by
  unfold rBk
  rw [pk_un h6, pk_un h7, pk_un (by omega), pk_un (by omega)]
theorem rDL_g {rt : Int32} {t : Nat} : ∀ (n p c : Nat) (N : Nat → Int32) (m : Int32), p + n = c → N 3 = nI c → (∃ c', c' ≤ c ∧ (rDL rt t n N p m).1 3 = nI c') ∧ ∀ q, q < 62 → q ≠ 3 → q ≠ 6 → q ≠ 7 → (rDL rt t n N p m).1 q = N q
  | 0, p, c, N, m, _, h3 => ⟨⟨c, Nat.le_refl _, h3⟩, fun _ _ _ _ _ => rfl⟩
  | n + 1, p, c, N, m, hn, h3 => by
    obtain ⟨c0, rfl⟩ : ∃ c0, c = c0 + 1 := ⟨c - 1, by omega⟩
    rw [rDL_s]
    split
    · split
      · obtain ⟨⟨c', a, b⟩, k⟩ := rDL_g n p c0 (rLv N p) (m + nI 1) (by omega) (rLv_3 h3)
        exact ⟨⟨c', by omega, b⟩, fun q h1 h2 h4 h5 => (k q h1 h2 h4 h5).trans (rLv_k (by omega) h2)⟩
      · split
        · obtain ⟨⟨c', a, b⟩, k⟩ := rDL_g n p c0 (rLv (rBk N p) p) m (by omega) (rLv_3 ((rBk_k (by omega) (by omega) (by omega)).trans h3))
          exact ⟨⟨c', by omega, b⟩, fun q h1 h2 h4 h5 => ((k q h1 h2 h4 h5).trans (rLv_k (by omega) h2)).trans (rBk_k h1 h4 h5)⟩
        · obtain ⟨⟨c', a, b⟩, k⟩ := rDL_g n (p + 1) (c0 + 1) (rBk N p) m (by omega) ((rBk_k (by omega) (by omega) (by omega)).trans h3)
          exact ⟨⟨c', by omega, b⟩, fun q h1 h2 h4 h5 => (k q h1 h2 h4 h5).trans (rBk_k h1 h4 h5)⟩
    · obtain ⟨⟨c', a, b⟩, k⟩ := rDL_g n (p + 1) (c0 + 1) N m (by omega) h3
      exact ⟨⟨c', by omega, b⟩, fun q h1 h2 h4 h5 => k q h1 h2 h4 h5⟩
end S19ref10leantxt
