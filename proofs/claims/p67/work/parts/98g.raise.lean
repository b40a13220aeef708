/-! A CODE BECOMES AN EXCEPTION -/
section GRa
variable {Γ : gE} {h : gHp}
def gXs : List (Nat × String) := [(113, "an argument is out of range"), (120, "there is no such route"), (125, "there is no such letter or prefix"), (130, "the state of the office does not allow this"), (157, "there is no letter at this position"), (204, "no letter in the office has this id"), (206, "the letter is in the tray"), (215, "the tray has no such position"), (224, "the length or the digits are out of range"), (262, "the code is out of range"), (267, "the code has no route"), (304, "the route has no bags"), (309, "there is no such rank"), (311, "the route has no such bag"), (313, "the letter is missorted"), (329, "the office has no letters"), (338, "no letter has been accepted so far"), (359, "the line has no such index"), (380, "the program is malformed"), (391, "a command failed"), (393, "no program was malformed so far"), (395, "no command failed so far"), (399, "there is no saved copy")]
/-- the texts of what is thrown -/
def gPxs (Γ : gE) : Prop := gPt Γ ∧ ∀ q ∈ gXs, ∃ sa, gPs Γ RX9 q.1 q.2 sa
theorem gPxs.at {k : Nat} {tx : String} (H : gPxs Γ) (h : (k, tx) ∈ gXs) : ∃ sa, gPs Γ RX9 k tx sa := H.2 (k, tx) h
def xIA : String := "java/lang/IllegalArgumentException"
def xIO : String := "java/lang/IndexOutOfBoundsException"
def xNS : String := "java/util/NoSuchElementException"
def xIS : String := "java/lang/IllegalStateException"
theorem mo_raise0 {z : Int32} (hz : ¬ z < 0) : pC Γ M_X9_raise [.int z] h 0 none := by
  have hne : ∀ k : Nat, 1 ≤ k → k ≤ 4 → ¬ z = -(nI k) := by
    intro k h1 h2 e
    refine hz ?_
    have : k = 1 ∨ k = 2 ∨ k = 3 ∨ k = 4 := by omega
    rcases this with rfl | rfl | rfl | rfl <;> (rw [e]; decide)
  refine pC_of (by decide) rfl (Nat.le_of_ble_eq_true rfl) [some (.int z)] rfl ?_
  refine g_blk [(.iload_n 0, .null), (.iconst (-1), .int (-1))] (Nat.le_of_ble_eq_true rfl) (by decide +kernel) ?_
  refine gx_iload_n_0 (gx_iconst ((gx_nil ?_)))
  refine g_icmp_ne (off := 13) (tgt := 15) (by decide +kernel) (by decide) (fun c2 => ?_) (fun c2 => ?_)
  · try simp only [bI_0, Decidable.not_not] at c2
    refine g_blk [(.iload_n 0, .null), (.bipush (-2), .int (-2))] (Nat.le_of_ble_eq_true rfl) (by decide +kernel) ?_
    refine gx_iload_n_0 (gx_bipush ((gx_nil ?_)))
    refine g_icmp_ne (off := 13) (tgt := 31) (by decide +kernel) (by decide) (fun c18 => ?_) (fun c18 => ?_)
    · try simp only [bI_0, Decidable.not_not] at c18
      refine g_blk [(.iload_n 0, .null), (.bipush (-3), .int (-3))] (Nat.le_of_ble_eq_true rfl) (by decide +kernel) ?_
      refine gx_iload_n_0 (gx_bipush ((gx_nil ?_)))
      refine g_icmp_ne (off := 13) (tgt := 47) (by decide +kernel) (by decide) (fun c34 => ?_) (fun c34 => ?_)
      · try simp only [bI_0, Decidable.not_not] at c34
        refine g_blk [(.iload_n 0, .null), (.bipush (-4), .int (-4))] (Nat.le_of_ble_eq_true rfl) (by decide +kernel) ?_
        refine gx_iload_n_0 (gx_bipush ((gx_nil ?_)))
        refine g_icmp_ne (off := 13) (tgt := 63) (by decide +kernel) (by decide) (fun c50 => ?_) (fun c50 => ?_)
        · try simp only [bI_0, Decidable.not_not] at c50
          refine g_end none rfl ⟨by decide +kernel, rfl⟩ ⟨?_, rfl⟩
          rfl
        · try simp only [bI_0, Decidable.not_not] at c50
          exact absurd c50 (hne 4 (by decide) (by decide))
      · try simp only [bI_0, Decidable.not_not] at c34
        exact absurd c34 (hne 3 (by decide) (by decide))
    · try simp only [bI_0, Decidable.not_not] at c18
      exact absurd c18 (hne 2 (by decide) (by decide))
  · try simp only [bI_0, Decidable.not_not] at c2
    exact absurd c2 (hne 1 (by decide) (by decide))
theorem mo_raise1 (hp : gPxs Γ) : gC Γ M_X9_raise [.int (-1)] h 6 1 6 (fun _ _ => False) (fun E h' => E = xIA ∧ h' = h) := by
  refine gC_of (by decide) rfl (Nat.le_of_ble_eq_true rfl) [some (.int (-1))] rfl ?_
  refine g_blk [(.iload_n 0, .null), (.iconst (-1), .int (-1))] (Nat.le_of_ble_eq_true rfl) (by decide +kernel) ?_
  refine gx_iload_n_0 (gx_iconst ((gx_nil ?_)))
  refine g_icmp_ne (off := 13) (tgt := 15) (by decide +kernel) (by decide) (fun c2 => ?_) (fun c2 => ?_)
  · try simp only [bI_0, Decidable.not_not] at c2
    exact absurd (by decide) c2
  · try simp only [bI_0, Decidable.not_not] at c2
    obtain ⟨sa, hsa⟩ := hp.at (k := 113) (tx := "an argument is out of range") (by decide)
    exact g_throw thr_ia hp.1 hsa (by decide +kernel) (by decide +kernel) (by decide +kernel) (by decide +kernel) (by decide +kernel) rfl (by decide) (Nat.le_of_ble_eq_true rfl) (by omega) (by omega) ⟨rfl, rfl⟩
theorem mo_raise2 (hp : gPxs Γ) : gC Γ M_X9_raise [.int (-2)] h 6 1 6 (fun _ _ => False) (fun E h' => E = xIO ∧ h' = h) := by
  refine gC_of (by decide) rfl (Nat.le_of_ble_eq_true rfl) [some (.int (-2))] rfl ?_
  refine g_blk [(.iload_n 0, .null), (.iconst (-1), .int (-1))] (Nat.le_of_ble_eq_true rfl) (by decide +kernel) ?_
  refine gx_iload_n_0 (gx_iconst ((gx_nil ?_)))
  refine g_icmp_ne (off := 13) (tgt := 15) (by decide +kernel) (by decide) (fun c2 => ?_) (fun c2 => ?_)
  · try simp only [bI_0, Decidable.not_not] at c2
    refine g_blk [(.iload_n 0, .null), (.bipush (-2), .int (-2))] (Nat.le_of_ble_eq_true rfl) (by decide +kernel) ?_
    refine gx_iload_n_0 (gx_bipush ((gx_nil ?_)))
    refine g_icmp_ne (off := 13) (tgt := 31) (by decide +kernel) (by decide) (fun c18 => ?_) (fun c18 => ?_)
    · try simp only [bI_0, Decidable.not_not] at c18
      exact absurd (by decide) c18
    · try simp only [bI_0, Decidable.not_not] at c18
      obtain ⟨sa, hsa⟩ := hp.at (k := 120) (tx := "there is no such route") (by decide)
      exact g_throw thr_io hp.1 hsa (by decide +kernel) (by decide +kernel) (by decide +kernel) (by decide +kernel) (by decide +kernel) rfl (by decide) (Nat.le_of_ble_eq_true rfl) (by omega) (by omega) ⟨rfl, rfl⟩
  · try simp only [bI_0, Decidable.not_not] at c2
    exact absurd c2 (by decide)
theorem mo_raise3 (hp : gPxs Γ) : gC Γ M_X9_raise [.int (-3)] h 6 1 6 (fun _ _ => False) (fun E h' => E = xNS ∧ h' = h) := by
  refine gC_of (by decide) rfl (Nat.le_of_ble_eq_true rfl) [some (.int (-3))] rfl ?_
  refine g_blk [(.iload_n 0, .null), (.iconst (-1), .int (-1))] (Nat.le_of_ble_eq_true rfl) (by decide +kernel) ?_
  refine gx_iload_n_0 (gx_iconst ((gx_nil ?_)))
  refine g_icmp_ne (off := 13) (tgt := 15) (by decide +kernel) (by decide) (fun c2 => ?_) (fun c2 => ?_)
  · try simp only [bI_0, Decidable.not_not] at c2
    refine g_blk [(.iload_n 0, .null), (.bipush (-2), .int (-2))] (Nat.le_of_ble_eq_true rfl) (by decide +kernel) ?_
    refine gx_iload_n_0 (gx_bipush ((gx_nil ?_)))
    refine g_icmp_ne (off := 13) (tgt := 31) (by decide +kernel) (by decide) (fun c18 => ?_) (fun c18 => ?_)
    · try simp only [bI_0, Decidable.not_not] at c18
      refine g_blk [(.iload_n 0, .null), (.bipush (-3), .int (-3))] (Nat.le_of_ble_eq_true rfl) (by decide +kernel) ?_
      refine gx_iload_n_0 (gx_bipush ((gx_nil ?_)))
      refine g_icmp_ne (off := 13) (tgt := 47) (by decide +kernel) (by decide) (fun c34 => ?_) (fun c34 => ?_)
      · try simp only [bI_0, Decidable.not_not] at c34
        exact absurd (by decide) c34
      · try simp only [bI_0, Decidable.not_not] at c34
        obtain ⟨sa, hsa⟩ := hp.at (k := 125) (tx := "there is no such letter or prefix") (by decide)
        exact g_throwX thr_ns hp.1 hsa (by decide +kernel) (by decide +kernel) (by decide +kernel) (by decide +kernel) (by decide +kernel) rfl (by decide) (Nat.le_of_ble_eq_true rfl) (by omega) (by omega) ⟨rfl, rfl⟩
    · try simp only [bI_0, Decidable.not_not] at c18
      exact absurd c18 (by decide)
  · try simp only [bI_0, Decidable.not_not] at c2
    exact absurd c2 (by decide)
theorem mo_raise4 (hp : gPxs Γ) : gC Γ M_X9_raise [.int (-4)] h 6 1 6 (fun _ _ => False) (fun E h' => E = xIS ∧ h' = h) := by
  refine gC_of (by decide) rfl (Nat.le_of_ble_eq_true rfl) [some (.int (-4))] rfl ?_
  refine g_blk [(.iload_n 0, .null), (.iconst (-1), .int (-1))] (Nat.le_of_ble_eq_true rfl) (by decide +kernel) ?_
  refine gx_iload_n_0 (gx_iconst ((gx_nil ?_)))
  refine g_icmp_ne (off := 13) (tgt := 15) (by decide +kernel) (by decide) (fun c2 => ?_) (fun c2 => ?_)
  · try simp only [bI_0, Decidable.not_not] at c2
    refine g_blk [(.iload_n 0, .null), (.bipush (-2), .int (-2))] (Nat.le_of_ble_eq_true rfl) (by decide +kernel) ?_
    refine gx_iload_n_0 (gx_bipush ((gx_nil ?_)))
    refine g_icmp_ne (off := 13) (tgt := 31) (by decide +kernel) (by decide) (fun c18 => ?_) (fun c18 => ?_)
    · try simp only [bI_0, Decidable.not_not] at c18
      refine g_blk [(.iload_n 0, .null), (.bipush (-3), .int (-3))] (Nat.le_of_ble_eq_true rfl) (by decide +kernel) ?_
      refine gx_iload_n_0 (gx_bipush ((gx_nil ?_)))
      refine g_icmp_ne (off := 13) (tgt := 47) (by decide +kernel) (by decide) (fun c34 => ?_) (fun c34 => ?_)
      · try simp only [bI_0, Decidable.not_not] at c34
        refine g_blk [(.iload_n 0, .null), (.bipush (-4), .int (-4))] (Nat.le_of_ble_eq_true rfl) (by decide +kernel) ?_
        refine gx_iload_n_0 (gx_bipush ((gx_nil ?_)))
        refine g_icmp_ne (off := 13) (tgt := 63) (by decide +kernel) (by decide) (fun c50 => ?_) (fun c50 => ?_)
        · try simp only [bI_0, Decidable.not_not] at c50
          exact absurd (by decide) c50
        · try simp only [bI_0, Decidable.not_not] at c50
          obtain ⟨sa, hsa⟩ := hp.at (k := 130) (tx := "the state of the office does not allow this") (by decide)
          exact g_throw thr_is hp.1 hsa (by decide +kernel) (by decide +kernel) (by decide +kernel) (by decide +kernel) (by decide +kernel) rfl (by decide) (Nat.le_of_ble_eq_true rfl) (by omega) (by omega) ⟨rfl, rfl⟩
      · try simp only [bI_0, Decidable.not_not] at c34
        exact absurd c34 (by decide)
    · try simp only [bI_0, Decidable.not_not] at c18
      exact absurd c18 (by decide)
  · try simp only [bI_0, Decidable.not_not] at c2
    exact absurd c2 (by decide)
end GRa
