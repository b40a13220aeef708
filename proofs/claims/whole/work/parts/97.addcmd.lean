/-! THE PARSER ADDS A COMMAND -/
section GPq
variable {Γ : gE} {h : gHp}
def gCd (ks : Nat → Nat) (h : gHp) (x : pcT) (a : Nat) : Prop := h a = some (gJ 5 [.ref (ks x.1), .int (nI x.2.1), .int (nI x.2.2.2), .int (nI x.2.2.1)])
/-- a parser with its list of commands -/
def gPL (Γ : gE) (de : Nat) (h : gHp) (o tb n p cl : Nat) (tx ks : Nat → Nat) (fp : List Nat) (cs : List pcT) : Prop := gPr Γ h o tb n p cl tx ∧ o ∉ fp ∧ tb ∉ fp ∧ ∃ xs, gAL Γ de h cl fp xs ∧ xs.length = cs.length ∧ ∀ (i a : Nat) (x : pcT), xs[i]? = some a → cs[i]? = some x → gCd ks h x a ∧ a ∉ fp
variable {de o tb n p cl : Nat} {tx ks : Nat → Nat} {fp : List Nat} {cs : List pcT}
/-- only the place moved -/
theorem gPL.pos {q : Nat} {h' : gHp} (H : gPL Γ de h o tb n p cl tx ks fp cs) (H' : gPr Γ h' o tb n q cl tx) (k : gKeep (fun z => z = o) h h') : gPL Γ de h' o tb n q cl tx ks fp cs := by
  obtain ⟨h1, h2, h3, xs, h4, h5, h6⟩ := H
  refine ⟨H', h2, h3, xs, gAL_kp h4 k (fun q hq z => h2 (by rw [← z]; exact hq)), h5, fun i a x ha hx => ?_⟩
  obtain ⟨g1, g2⟩ := h6 i a x ha hx
  refine ⟨k a _ (fun z => ?_) g1, g2⟩
  have ho := h1.1
  have g1' : h a = _ := g1
  rw [z, ho] at g1'
  have z2 := congrArg (fun x : Option va_E => match x with | some (.inr (8, _)) => true | _ => false) g1'
  cases z2
theorem cm_init {a k9 : Nat} {y0 : Value} {y1 y2 y3 : Int32} (ha : h a = some (gJ 5 [y0, .int y1, .int y2, .int y3])) (x1 x2 x3 : Int32) : gC Γ M_X1_init [.ref a, .ref k9, .int x1, .int x2, .int x3] h 1 0 0 (fun v h' => v = none ∧ h' = gUp h a (gJ 5 [.ref k9, .int x1, .int x2, .int x3])) (fun _ _ => False) := by
  refine gC_of (by decide) rfl (Nat.le_of_ble_eq_true rfl) [some (.ref a), some (.ref k9), some (.int x1), some (.int x2), some (.int x3)] rfl ?_
  refine g_blk [(.aload_n 0, .null)] (Nat.le_of_ble_eq_true rfl) (by decide +kernel) ?_
  refine gx_aload_n_0 ((gx_nil ?_))
  refine g_objInit wOIRX1 wOI1 wOI2 (by decide +kernel) (by omega) (Nat.le_of_ble_eq_true rfl) ?_
  refine g_blk [(.aload_n 0, .null), (.aload_n 1, .null)] (Nat.le_of_ble_eq_true rfl) (by decide +kernel) ?_
  refine gx_aload_n_0 (gx_aload_n_1 ((gx_nil ?_)))
  refine g_putfF fX1_9 fin5_0 rfl (by decide +kernel) ha (by simp) rfl rfl ?_
  refine g_blk [(.aload_n 0, .null), (.iload_n 2, .null)] (Nat.le_of_ble_eq_true rfl) (by decide +kernel) ?_
  refine gx_aload_n_0 (gx_iload_n_2 ((gx_nil ?_)))
  refine g_putfF fX1_15 fin5_1 rfl (by decide +kernel) (gUp_s _ _ _) (by simp) rfl rfl ?_
  refine g_blk [(.aload_n 0, .null), (.iload_n 3, .null)] (Nat.le_of_ble_eq_true rfl) (by decide +kernel) ?_
  refine gx_aload_n_0 (gx_iload_n_3 ((gx_nil ?_)))
  refine g_putfF fX1_19 fin5_2 rfl (by decide +kernel) (gUp_s _ _ _) (by simp) rfl rfl ?_
  refine g_blk [(.aload_n 0, .null), (.iload 4, .null)] (Nat.le_of_ble_eq_true rfl) (by decide +kernel) ?_
  refine gx_aload_n_0 (gx_iload_4 ((gx_nil ?_)))
  refine g_putfF fX1_22 fin5_3 rfl (by decide +kernel) (gUp_s _ _ _) (by simp) rfl rfl ?_
  refine g_end none rfl ⟨by decide +kernel, rfl⟩ ?_
  refine ⟨rfl, ?_⟩
  simp only [gUp_gUp]
  rfl
theorem gPL.add {h5 h7 : gHp} {fp' : List Nat} {xs : List Nat} {x : pcT} {a : Nat} (hP : gPr Γ h o tb n p cl tx) (ho : o ∉ fp) (ht : tb ∉ fp) (HL : gAL Γ de h cl fp xs) (hl : xs.length = cs.length) (hx : ∀ (i a : Nat) (x : pcT), xs[i]? = some a → cs[i]? = some x → gCd ks h x a ∧ a ∉ fp) (ha : h a = none) (k5 : gAll h h5) (ha5 : gCd ks h5 x a) (H7 : gAL Γ de h7 cl fp' (xs ++ [a])) (hf : ∀ q ∈ fp', q ∈ fp ∨ h5 q = none) (k7 : gKeep (fun q => q ∈ fp) h5 h7) : gPL Γ de h7 o tb n p cl tx ks fp' (cs ++ [x]) ∧ (∀ q ∈ fp', q ∈ fp ∨ h q = none) ∧ gKeep (fun q => q ∈ fp) h h7 := by
  have hsome : ∀ {z : Nat} {e : va_E}, z ∉ fp → h5 z = some e → z ∉ fp' := fun {z e} h1 h2 h3 => by
    rcases hf z h3 with y | y
    · exact h1 y
    · rw [h2] at y; cases y
  have hafp : a ∉ fp := fun z => by
    rcases gAL_nk HL a z with ⟨fs, y⟩ | ⟨m, f, y⟩ <;> (rw [ha] at y; cases y)
  have hP5 := hP.kp k5 (fun z => z) (fun z => z)
  have hP7 := hP5.kp k7 ho ht
  refine ⟨⟨hP7, hsome ho hP5.1, ?_, xs ++ [a], H7, by rw [List.length_append, List.length_append, hl]; rfl, fun i b y hb hy => ?_⟩, fun q hq => ?_, fun z e z1 z2 => k7 z e z1 (k5 z e (fun y => y) z2)⟩
  · obtain ⟨f, hf5, -⟩ := hP5.2.1
    exact hsome ht hf5
  · by_cases hi : i < xs.length
    · rw [List.getElem?_append_left hi] at hb
      rw [List.getElem?_append_left (by omega)] at hy
      obtain ⟨g1, g2⟩ := hx i b y hb hy
      have g5 : gCd ks h5 y b := k5 b _ (fun z => z) g1
      exact ⟨k7 b _ g2 g5, hsome g2 g5⟩
    · rw [List.getElem?_append_right (by omega)] at hb hy
      have h0 : i - xs.length = 0 := by
        rcases Nat.lt_or_ge (i - xs.length) 1 with z | z
        · omega
        · rw [List.getElem?_eq_none (by simpa using z)] at hb; cases hb
      rw [h0] at hb
      rw [show i - cs.length = 0 by omega] at hy
      cases hb
      cases hy
      exact ⟨k7 a _ hafp ha5, hsome hafp ha5⟩
  · rcases hf q hq with y | y
    · exact Or.inl y
    · refine Or.inr ?_
      cases e : h q with
      | none => rfl
      | some e9 =>
        rw [k5 q _ (fun z => z) e] at y; cases y
theorem pe_add {mi : Nat} (hpl : gPall Γ de mi) {Z : Option Value → gHp → Prop} (H : gPL Γ de h o tb n p cl tx ks fp cs) (hcs : cs.length ≤ 40) (x : pcT) (fin : ∀ h' fp', gPL Γ de h' o tb n p cl tx ks fp' (cs ++ [x]) → (∀ q ∈ fp', q ∈ fp ∨ h q = none) → gKeep (fun q => q ∈ fp) h h' → Z (some (.int (nI 1))) h') : G Γ M_X5_readCommand 8 2 68 Z (fun _ _ => False) 2 68 101 [some (.ref o), some (.ref (ks x.1)), some (.int (nI x.2.1)), some (.int (nI x.2.2.2)), some (.int (nI x.2.2.1))] [] h := by
  obtain ⟨hP, ho9, ht9, xs, HL, hl, hx⟩ := H
  have ho := hP.1
  refine g_blk [(.aload_n 0, .null)] (Nat.le_of_ble_eq_true rfl) (by decide +kernel) ?_
  refine gx_aload_n_0 ((gx_nil ?_))
  refine g_getf fX5_18 (by decide +kernel) ho rfl ?_
  refine g_new nX5_57 (rc' := 1) (rs' := 64) (by decide +kernel) (by omega) (by simp) (fun a ha => ?_)
  refine g_blk [(.dup, .null), (.aload_n 1, .null), (.iload_n 2, .null), (.iload_n 3, .null), (.iload 4, .null)] (Nat.le_of_ble_eq_true rfl) (by decide +kernel) ?_
  refine gx_dupr (gx_aload_n_1 (gx_iload_n_2 (gx_iload_n_3 (gx_iload_4 ((gx_nil ?_))))))
  refine g_callI (rc' := 1) (rs' := 64) kX5_59 (cm_init (gUp_s _ _ _) (nI x.2.1) (nI x.2.2.2) (nI x.2.2.1)) (by decide +kernel) rfl rfl rfl (Nat.le_of_ble_eq_true rfl) (Nat.le_of_ble_eq_true rfl) (Nat.le_of_ble_eq_true rfl) (by omega) (by omega) rfl (fun _ _ z => z.elim) (fun v9 h5 hz => ?_)
  obtain ⟨rfl, h5e⟩ := hz
  rw [gUp_gUp] at h5e
  have k5 : gAll h h5 := by rw [h5e]; exact gAll_up ha
  have ha5 : gCd ks h5 x a := by rw [h5e]; exact gUp_s _ _ _
  clear h5e
  have HL5 := gAL_kp HL k5 (fun _ _ z => z)
  have hE5 : gEl h5 5 xs := fun y hy => by
    obtain ⟨i, hi⟩ := List.getElem?_of_mem hy
    have hi2 : i < cs.length := by rw [← hl]; exact (List.getElem?_eq_some_iff.mp hi).1
    exact ⟨_, k5 y _ (fun z => z) (hx i y _ hi (List.getElem?_eq_getElem hi2)).1⟩
  simp only [Option.toList_some, Option.toList_none, List.cons_append, List.nil_append]
  refine g_callV (rc' := 0) (rs' := 0) kX5_62 (al_add (x := a) hpl HL5 (by omega) gCi_5 (by decide) hE5 ⟨_, ha5⟩) (by decide +kernel) rfl rfl (al_cell HL5) rfl (Nat.le_of_ble_eq_true rfl) (Nat.le_of_ble_eq_true rfl) (Nat.le_of_ble_eq_true rfl) (by omega) (by omega) rfl (fun _ _ z => z.elim) (fun v9 h7 hz => ?_)
  obtain ⟨rfl, fp', H7, hf7, k7⟩ := hz
  simp only [Option.toList_some, Option.toList_none, List.cons_append, List.nil_append]
  refine g_blk [(.pop, .null), (.iconst 1, .int (nI 1))] (Nat.le_of_ble_eq_true rfl) (by decide +kernel) ?_
  refine gx_popi (gx_iconst ((gx_nil ?_)))
  refine g_end (some (.int _)) rfl ⟨by decide +kernel, _, rfl, (by first | rfl | exact bI_nar _)⟩ ?_
  obtain ⟨a1, a2, a3⟩ := gPL.add hP ho9 ht9 HL hl hx ha k5 ha5 H7 hf7 k7
  exact fin _ _ a1 a2 a3
end GPq
