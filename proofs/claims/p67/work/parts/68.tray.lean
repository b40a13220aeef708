/-! THE TRAY, IN ITS ORDER; SORTING ALL -/
section GTi
def gTy (N : Nat → Int32) (p : Int32) (i : Nat) : Bool := decide (N (62 + 7 * i + 5) = -1 ∧ N (62 + 7 * i + 3) = p)
def gTI (N : Nat → Int32) (p : Int32) : Nat → List Nat
  | 0 => []
  | i + 1 => gTI N p i ++ (if gTy N p i = true then [i] else [])
theorem gTI_m {N : Nat → Int32} {p : Int32} : ∀ {c i : Nat}, i ∈ gTI N p c → i < c ∧ gTy N p i = true
  | 0, i, h => by cases h
  | c + 1, i, h => by
    unfold gTI at h
    rcases List.mem_append.mp h with z | z
    · have := gTI_m z; exact ⟨by omega, this.2⟩
    · by_cases y : gTy N p c = true
      · rw [if_pos y] at z
        rw [List.mem_singleton.mp z]; exact ⟨by omega, y⟩
      · rw [if_neg y] at z; cases z
theorem gTI_len {N : Nat → Int32} {p : Int32} : ∀ {c : Nat}, (gTI N p c).length ≤ c
  | 0 => Nat.le_refl _
  | c + 1 => by
    unfold gTI
    rw [List.length_append]
    have := gTI_len (N := N) (p := p) (c := c)
    split <;> simp <;> omega
def gS1 (c t : Nat) (X : (Nat → Int32) × Int32) (i : Nat) : (Nat → Int32) × Int32 := if rGo X.1 i (rLR X.1 i t) c (rOp X.1 (rLR X.1 i t)) = true then (rInto X.1 i (rLR X.1 i t) c (rOp X.1 (rLR X.1 i t)), X.2 + nI 1) else X
def gSf (c t : Nat) (X : (Nat → Int32) × Int32) (l : List Nat) : (Nat → Int32) × Int32 := l.foldl (gS1 c t) X
theorem gS1_o {c t i q : Nat} {X : (Nat → Int32) × Int32} (h : 62 ≤ q) (h5 : q ≠ 62 + 7 * i + 5) (h6 : q ≠ 62 + 7 * i + 6) : (gS1 c t X i).1 q = X.1 q := by
  unfold gS1
  split
  · have := rIx_le (rLR X.1 i t)
    exact rInto_keep h5 h6 (by omega)
  · rfl
theorem gS1_b {c t i q : Nat} {X : (Nat → Int32) × Int32} (h : q < 8 ∨ (26 ≤ q ∧ q < 62)) : (gS1 c t X i).1 q = X.1 q := by
  unfold gS1
  split
  · have := rIx_le (rLR X.1 i t)
    exact rInto_keep (by omega) (by omega) (by omega)
  · rfl
theorem rSK_keep {N0 : Nat → Int32} {pr : Int32} {c t q : Nat} : ∀ i, 62 + 7 * i ≤ q → (rSK N0 pr c t i).1 q = N0 q
  | 0, _ => rfl
  | i + 1, h => by
    rw [rSK_s]
    split
    · have := rIx_le (rLR (rSK N0 pr c t i).1 i t)
      exact (rInto_keep (by omega) (by omega) (by omega)).trans (rSK_keep i (by omega))
    · exact rSK_keep i (by omega)
theorem rSK_3 {N0 : Nat → Int32} {pr : Int32} {c t j : Nat} : ∀ i, (rSK N0 pr c t i).1 (62 + 7 * j + 3) = N0 (62 + 7 * j + 3)
  | 0 => rfl
  | i + 1 => by
    rw [rSK_s]
    split
    · have := rIx_le (rLR (rSK N0 pr c t i).1 i t)
      exact (rInto_keep (by omega) (by omega) (by omega)).trans (rSK_3 i)
    · exact rSK_3 i
theorem rSK_ne {N0 : Nat → Int32} {pr : Int32} {c t j k : Nat} (hk : k < 7) (hn : ¬ N0 (62 + 7 * j + 3) = pr) : ∀ i, (rSK N0 pr c t i).1 (62 + 7 * j + k) = N0 (62 + 7 * j + k)
  | 0 => rfl
  | i + 1 => by
    rw [rSK_s]
    split
    · next h =>
      have hij : i ≠ j := fun z => by
        subst z
        rw [rSK_3] at h
        exact hn h.1
      have := rIx_le (rLR (rSK N0 pr c t i).1 i t)
      exact (rInto_keep (by omega) (by omega) (by omega)).trans (rSK_ne hk hn i)
    · exact rSK_ne hk hn i
theorem gSf_app {c t : Nat} {X : (Nat → Int32) × Int32} {a b : List Nat} : gSf c t X (a ++ b) = gSf c t (gSf c t X a) b := List.foldl_append
theorem rSK_f {N N0 : Nat → Int32} {pr : Int32} {c t : Nat} (h5 : ∀ j, N (62 + 7 * j + 3) = pr → N0 (62 + 7 * j + 5) = N (62 + 7 * j + 5)) (h3 : ∀ j, N0 (62 + 7 * j + 3) = N (62 + 7 * j + 3)) : ∀ i, rSK N0 pr c t i = gSf c t (N0, nI 0) (gTI N pr i)
  | 0 => rfl
  | i + 1 => by
    have ih := rSK_f h5 h3 i (c := c) (t := t)
    have e3 : (rSK N0 pr c t i).1 (62 + 7 * i + 3) = N (62 + 7 * i + 3) := (rSK_3 i).trans (h3 i)
    have e5 : (rSK N0 pr c t i).1 (62 + 7 * i + 5) = N0 (62 + 7 * i + 5) := rSK_keep i (by omega)
    unfold gTI
    rw [gSf_app, ← ih, rSK_s, e3]
    by_cases a : N (62 + 7 * i + 3) = pr
    · by_cases b : N (62 + 7 * i + 5) = -1
      · rw [if_pos (show gTy N pr i = true from decide_eq_true ⟨b, a⟩)]
        show _ = gS1 c t (rSK N0 pr c t i) i
        unfold gS1
        by_cases g : rGo (rSK N0 pr c t i).1 i (rLR (rSK N0 pr c t i).1 i t) c (rOp (rSK N0 pr c t i).1 (rLR (rSK N0 pr c t i).1 i t)) = true
        · rw [if_pos ⟨a, g⟩, if_pos g]
        · rw [if_neg (fun z => g z.2), if_neg g]
      · rw [if_neg (show ¬ gTy N pr i = true from fun z => b (of_decide_eq_true z).1), if_neg (fun z => by
          have y := (of_decide_eq_true z.2).1
          rw [e5, h5 i a] at y
          exact b y)]
        rfl
    · rw [if_neg (show ¬ gTy N pr i = true from fun z => a (of_decide_eq_true z).2), if_neg (fun z => a z.1)]
      rfl
theorem gS1_m {c t i : Nat} {N : Nat → Int32} {m : Int32} : gS1 c t (N, m) i = ((gS1 c t (N, nI 0) i).1, m + (gS1 c t (N, nI 0) i).2) := by
  unfold gS1
  split
  · show (_, _) = (_, _)
    rw [show nI 0 + nI 1 = nI 1 by decide]
  · show (_, _) = (_, _)
    rw [a_n0]
theorem gSf_m {c t : Nat} : ∀ (l : List Nat) (N : Nat → Int32) (m : Int32), gSf c t (N, m) l = ((gSf c t (N, nI 0) l).1, m + (gSf c t (N, nI 0) l).2)
  | [], N, m => by
    show (N, m) = (N, m + nI 0)
    rw [a_n0]
  | i :: l, N, m => by
    show gSf c t (gS1 c t (N, m) i) l = ((gSf c t (gS1 c t (N, nI 0) i) l).1, m + (gSf c t (gS1 c t (N, nI 0) i) l).2)
    rw [gS1_m, gSf_m l, show gS1 c t (N, nI 0) i = ((gS1 c t (N, nI 0) i).1, (gS1 c t (N, nI 0) i).2) from rfl, gSf_m l _ ((gS1 c t (N, nI 0) i).2), Int32.add_assoc]
theorem rSA_f {N : Nat → Int32} {c t : Nat} : rSA N c t = gSf c t (N, nI 0) (gTI N (nI 1) c ++ gTI N (nI 0) c) := by
  have e1 := rSK_f (N := N) (N0 := N) (pr := nI 1) (c := c) (t := t) (fun _ _ => rfl) (fun _ => rfl) c
  have e2 := rSK_f (N := N) (N0 := (rSK N (nI 1) c t c).1) (pr := nI 0) (c := c) (t := t) (fun j hj => rSK_ne (by omega) (fun z => by rw [hj] at z; exact absurd z (by decide)) c) (fun j => rSK_3 c) c
  unfold rSA
  rw [gSf_app, ← e1, e2]
  rw [show rSK N (nI 1) c t c = ((rSK N (nI 1) c t c).1, (rSK N (nI 1) c t c).2) from rfl, gSf_m _ _ ((rSK N (nI 1) c t c).2)]
theorem rInto_w {N : Nat → Int32} {c i : Nat} {rt : Int32} (hw : rLv1 N c) (hO : rOK N) (g : rGo N i rt c (rOp N rt) = true) : rLv1 (rInto N i rt c (rOp N rt)) c := by
  intro j hj
  have hx := hw j hj
  have hr := rIx_le rt
  have g2 := of_decide_eq_true g
  by_cases y : j = i
  · subst y
    obtain ⟨m, cd, w, pr, q, em, hm, ec, hcd, ew, hw1, hw2, ep, hpr, eq, hq, eA⟩ := hx
    have k : ∀ k9, k9 < 5 → rInto N j rt c (rOp N rt) (62 + 7 * j + k9) = N (62 + 7 * j + k9) := fun k9 hk9 => rInto_keep (by omega) (by omega) (by omega)
    obtain ⟨kb, hb2, eb⟩ := rBag_in (hO.get _).1 g2.2.2.2
    have k0 := k 0 (by omega)
    rw [Nat.add_zero] at k0
    refine ⟨m, cd, w, pr, q, k0.trans em, hm, (k 1 (by omega)).trans ec, hcd, (k 2 (by omega)).trans ew, hw1, hw2, (k 3 (by omega)).trans ep, hpr, (k 4 (by omega)).trans eq, hq, Or.inr ⟨rIx rt, kb, hr, by omega, ?_, ?_⟩⟩
    · unfold rInto
      rw [pk_un (by omega), pk_un (by omega), pk_us]
      exact rIx_eq g2.2.1
    · unfold rInto
      rw [pk_un (by omega), pk_us]
      exact eb
  · have k : ∀ k9, k9 < 7 → rInto N i rt c (rOp N rt) (62 + 7 * j + k9) = N (62 + 7 * j + k9) := fun k9 hk9 => rInto_keep (by omega) (by omega) (by omega)
    have k0 := k 0 (by omega)
    rw [Nat.add_zero] at k0
    rw [k0, k 1 (by omega), k 2 (by omega), k 3 (by omega), k 4 (by omega), k 5 (by omega), k 6 (by omega)]
    exact hx
theorem rInto_v {N : Nat → Int32} {c i t : Nat} {rt : Int32} (ht : t ≤ 12) (hv : rPv N t) : rPv (rInto N i rt c (rOp N rt)) t := by
  have hr := rIx_le rt
  exact rPv_cg ht (fun q q1 q2 => (rInto_keep (by omega) (by omega) (by omega)).symm) hv
/-- what one put keeps -/
def gSk (N : Nat → Int32) (c t : Nat) : Prop := rPv N t ∧ rLv1 N c ∧ rOK N
theorem gSk_1 {c t i : Nat} {X : (Nat → Int32) × Int32} (ht : t ≤ 12) (h : gSk X.1 c t) : gSk (gS1 c t X i).1 c t := by
  obtain ⟨hv, hw, hO⟩ := h
  unfold gS1
  by_cases g : rGo X.1 i (rLR X.1 i t) c (rOp X.1 (rLR X.1 i t)) = true
  · rw [if_pos g]
    exact ⟨rInto_v ht hv, rInto_w hw hO g, rInto_OK hO g⟩
  · rw [if_neg g]
    exact ⟨hv, hw, hO⟩
end GTi
