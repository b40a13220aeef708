/-! THE NINE CHANGES AS ONE KIND OF THING: code, answer, row -/
section GTr
theorem i32_in {x : Int32} {a b : Nat} (ha : a < 2 ^ 31) (hb : b < 2 ^ 31) (h : nI a ≤ x ∧ x ≤ nI b) : ∃ n, x = nI n ∧ a ≤ n ∧ n ≤ b := by
  have h1 := Int32.le_iff_toInt_le.mp h.1
  have h2 := Int32.le_iff_toInt_le.mp h.2
  rw [nI_toInt ha] at h1
  rw [nI_toInt hb] at h2
  refine ⟨x.toInt.toNat, ?_, by omega, by omega⟩
  apply Int32.toInt_inj.mp
  rw [nI_toInt (by omega)]
  omega
abbrev trT : Type := Int32 × Int32 × (Nat → Int32)
def tAcc (N : Nat → Int32) (code wt pr : Int32) (c : Nat) : trT := (rT (bI ((nI 0 ≤ code ∧ code ≤ nI 9999) ∧ (nI 1 ≤ wt ∧ wt ≤ nI 50))) (bI (N 3 < nI 20)) (nI 1), N 2, rAcc N code wt pr c)
def tAdd (N : Nat → Int32) (dg ln rt : Int32) (t : Nat) : trT := (rT (bI (rPx dg ln = true)) (bI (nI 0 ≤ rt ∧ rt ≤ nI 5)) (bI (N 4 < nI 12 ∧ rFind N dg ln t = -1)), N 4 + nI 1, rAddN N dg ln rt t)
def tRm (N : Nat → Int32) (dg ln : Int32) (t : Nat) : trT := (rT (bI (rPx dg ln = true)) (bI (¬ rFind N dg ln t = -1)) (nI 1), N (26 + 3 * (rFind N dg ln t).toNatClampNeg + 2), rRm N (rFind N dg ln t).toNatClampNeg)
def tSrt (N : Nat → Int32) (id : Int32) (c t : Nat) : trT := (rT (bI (¬ rPlace N id c = -1)) (bI (¬ rPlace N id c = -1 ∧ rGo N (rIdx N id c) (rSrt N id c t) c (rOp N (rSrt N id c t)) = true)) (nI 1), rBag N (rSrt N id c t) (N (62 + 7 * rIdx N id c + 2)) c (rOp N (rSrt N id c t)), rInto N (rIdx N id c) (rSrt N id c t) c (rOp N (rSrt N id c t)))
def tAll (N : Nat → Int32) (c t : Nat) : trT := (nI 0, (rSA N c t).2, (rSA N c t).1)
def tPlc (N : Nat → Int32) (id rt : Int32) (c : Nat) : trT := (rT (bI (¬ rPlace N id c = -1)) (bI (nI 0 ≤ rt ∧ rt ≤ nI 5)) (bI (¬ rPlace N id c = -1 ∧ rGo N (rIdx N id c) rt c (rOp N rt) = true)), rBag N rt (N (62 + 7 * rIdx N id c + 2)) c (rOp N rt), rInto N (rIdx N id c) rt c (rOp N rt))
def tPul (N : Nat → Int32) (id : Int32) (c : Nat) : trT := (rT (bI (¬ rPlace N id c = -1)) (bI (¬ N (62 + 7 * rIdx N id c + 5) = -1)) (nI 1), N (62 + 7 * rIdx N id c + 5), upd N (62 + 7 * rIdx N id c + 5) (-1))
def tSet (N : Nat → Int32) (rt : Int32) (k : Nat) (hr mo : Int32) : trT := (rT (bI (nI 0 ≤ rt ∧ rt ≤ nI 5)) (bI (nI 0 ≤ hr ∧ hr ≤ mo)) (nI 1), N (8 + 3 * rIx rt + k), upd N (8 + 3 * rIx rt + k) hr)
def tWait (N : Nat → Int32) (hrs : Int32) : trT := (rT (bI (nI 1 ≤ hrs ∧ hrs ≤ nI 48)) (nI 1) (nI 1), (rHF hrs.toNatClampNeg (N, nI 0)).2, (rHF hrs.toNatClampNeg (N, nI 0)).1)
/-- what a change that goes through leaves -/
def trG (nx c t : Nat) (X : trT) : Prop := ∃ n a, rIV X.2.2 c t n ∧ n ≤ nx + 1 ∧ X.2.1 = nI a ∧ a < 2 ^ 30
variable {N : Nat → Int32} {c t nx : Nat}
theorem rT_ok {a b c : Int32} (h : rT a b c = 0) : ¬ a = 0 ∧ ¬ b = 0 ∧ ¬ c = 0 := (rT_iff a b c).mp h
theorem bI_1 {p : Prop} [Decidable p] (h : ¬ bI p = 0) : p := Decidable.not_not.mp (fun z => h (bI_0.mpr z))
theorem tAcc_G (h : rIV N c t nx) (hn : nx < 100000) {code wt : Int32} {pr : Nat} (hp : pr ≤ 1) (e : (tAcc N code wt (nI pr) c).1 = 0) : trG nx (c + 1) t (tAcc N code wt (nI pr) c) := by
  obtain ⟨e1, e2, -⟩ := rT_ok e
  have e1 := bI_1 e1
  have e2 := bI_1 e2
  obtain ⟨cd, rfl, -, h1⟩ := i32_in (by omega) (by omega) e1.1
  obtain ⟨w, rfl, h2, h3⟩ := i32_in (by omega) (by omega) e1.2
  rw [h.h3, nI_ltI (by have := h.hc; omega) (by omega)] at e2
  exact ⟨nx + 1, nx, h.acc e2 hn (by omega) h2 h3 hp, Nat.le_refl _, h.n2, by omega⟩
theorem rPx_in {dg ln : Int32} (h : rPx dg ln = true) : ∃ d l, dg = nI d ∧ ln = nI l ∧ 1 ≤ l ∧ l ≤ 4 ∧ d < 10 ^ l := by
  have h' := of_decide_eq_true h
  obtain ⟨l, rfl, h1, h2⟩ := i32_in (by omega) (by omega) h'.1
  have hk : 10 ^ l ≤ 10 ^ 4 := Nat.pow_le_pow_right (by decide) h2
  have hp : 0 < 10 ^ l := Nat.pow_pos (by decide)
  have h3 := h'.2
  rw [rTens_n h2, nI_subN (by omega)] at h3
  obtain ⟨d, rfl, -, h4⟩ := i32_in (by omega) (by omega) h3
  exact ⟨d, l, rfl, rfl, h1, h2, by omega⟩
theorem tAdd_G (h : rIV N c t nx) {dg ln rt : Int32} (e : (tAdd N dg ln rt t).1 = 0) : trG nx c (t + 1) (tAdd N dg ln rt t) := by
  obtain ⟨e1, e2, e3⟩ := rT_ok e
  obtain ⟨d, l, rfl, rfl, h1, h2, h3⟩ := rPx_in (bI_1 e1)
  obtain ⟨r, rfl, -, h4⟩ := i32_in (by omega) (by omega) (bI_1 e2)
  have e3 := bI_1 e3
  have ht := h.ht
  rw [h.h4, nI_ltI (by omega) (by omega)] at e3
  exact ⟨nx, t + 1, h.add e3.1 h1 h2 h3 h4 e3.2, by omega, by show N 4 + nI 1 = _; rw [h.h4, nI_add], by omega⟩
theorem tRm_G (h : rIV N c t nx) {dg ln : Int32} (e : (tRm N dg ln t).1 = 0) : trG nx c (t - 1) (tRm N dg ln t) := by
  obtain ⟨-, e2, -⟩ := rT_ok e
  have ht := h.ht
  rcases rFind_in (N := N) (dg := dg) (ln := ln) (c := t) with z | ⟨k, hk, z⟩
  · exact absurd z (bI_1 e2)
  · have ek : (rFind N dg ln t).toNatClampNeg = k := by rw [z, nI_clamp (by omega)]
    obtain ⟨a1, a2, a3, -, -, b3, -, -, -, b4⟩ := h.pv k hk
    refine ⟨nx, a3, ?_, by omega, ?_, by omega⟩
    · show rIV (rRm N _) _ _ _
      rw [ek]; exact h.rm hk
    · show N (26 + 3 * _ + 2) = _
      rw [ek]; exact b3
theorem rIdx_in (hc : c ≤ 20) {id : Int32} (h : ¬ rPlace N id c = -1) : rIdx N id c < c := by
  rcases rPlace_in (N := N) (id := id) (c := c) with z | ⟨k, hk, z⟩
  · exact absurd z h
  · unfold rIdx
    rw [z, nI_clamp (by omega)]; exact hk
theorem tSrt_G (h : rIV N c t nx) (hn : nx ≤ 100000) {id : Int32} (e : (tSrt N id c t).1 = 0) : trG nx c t (tSrt N id c t) := by
  obtain ⟨-, e2, -⟩ := rT_ok e
  have e2 := bI_1 e2
  obtain ⟨a, b, hb, eb⟩ := h.into hn (rIdx_in h.hc e2.1) e2.2
  exact ⟨nx, b, a, by omega, eb, by omega⟩
theorem tPlc_G (h : rIV N c t nx) (hn : nx ≤ 100000) {id rt : Int32} (e : (tPlc N id rt c).1 = 0) : trG nx c t (tPlc N id rt c) := by
  obtain ⟨-, -, e2⟩ := rT_ok e
  have e2 := bI_1 e2
  obtain ⟨a, b, hb, eb⟩ := h.into hn (rIdx_in h.hc e2.1) e2.2
  exact ⟨nx, b, a, by omega, eb, by omega⟩
theorem tAll_G (h : rIV N c t nx) (hn : nx ≤ 100000) : trG nx c t (tAll N c t) := by
  obtain ⟨a, m, hm, b⟩ := h.sa hn
  exact ⟨nx, m, a, by omega, b, by omega⟩
theorem tPul_G (h : rIV N c t nx) (hn : nx ≤ 100000) {id : Int32} (e : (tPul N id c).1 = 0) : trG nx c t (tPul N id c) := by
  obtain ⟨e1, e2, -⟩ := rT_ok e
  have e1 := bI_1 e1
  have e2 := bI_1 e2
  have hk := rIdx_in h.hc e1
  obtain ⟨m, cd, w, pr, q, -, -, -, -, -, -, -, -, -, -, -, h6⟩ := h.lv hn _ hk
  rcases h6 with z | ⟨a, b, ha, hb, ea, eb⟩
  · exact absurd z e2
  · exact ⟨nx, a, h.pull hk, by omega, ea, by omega⟩
theorem tSet_G (h : rIV N c t nx) {rt hr : Int32} {k : Nat} (hk : k < 2) (e : (tSet N rt k hr (nI (24 - k))).1 = 0) : trG nx c t (tSet N rt k hr (nI (24 - k))) := by
  obtain ⟨e1, e2, -⟩ := rT_ok e
  have e1 := bI_1 e1
  obtain ⟨x, rfl, -, hx⟩ := i32_in (by omega) (by omega) (bI_1 e2)
  have h5 := rIx_le rt
  obtain ⟨a, b, g, ha, hb, hg, ea, eb, eg⟩ := h.rt (rIx rt) h5
  have k2 : k = 0 ∨ k = 1 := by omega
  rcases k2 with rfl | rfl
  · exact ⟨nx, a, h.sets h5 (by omega) hx, by omega, ea, by omega⟩
  · exact ⟨nx, b, h.sets h5 (by omega) hx, by omega, eb, by omega⟩
theorem tWait_G (h : rIV N c t nx) {hrs : Int32} : trG nx (rc (tWait N hrs).2.2) t (tWait N hrs) := by
  obtain ⟨c', m, h1, h2, h3⟩ := rIV.hf hrs.toNatClampNeg (X := (N, nI 0)) h rfl
  exact ⟨nx, m, by rw [show rc (tWait N hrs).2.2 = c' from h1.c_eq]; exact h1, by omega, by show (rHF _ _).2 = _; rw [h3, Nat.zero_add], by have := h.hc; omega⟩
variable {Γ : gE} {o : Nat} {ad : Nat → Nat} {V : Nat → Int32} {F : Nat → Nat → Int32}
def doZ (V : Nat → Int32) (F : Nat → Nat → Int32) (X : trT) (v : Option Value) (V1 : Nat → Int32) (F1 : Nat → Nat → Int32) : Prop := (∃ z, v = some (.int z)) ∧ (X.1 = 0 → v = some (.int X.2.1)) ∧ V1 = vU V 13 X.1 ∧ F1 = fR F 0 (if X.1 = 0 then X.2.2 else F 0)
end GTr
