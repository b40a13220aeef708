/-! ArrayList: add, remove, clear, the constructor -/
section GAl3
variable {Γ : gE} {de : Nat}
set_option maxRecDepth 100000 in
theorem wOI1 : Cond.instanceMethod Lib.objectInit ∈ lw_good := (gIn (List.mem_of_getElem? (i := 77) (by decide +kernel)) (by decide +kernel))
set_option maxRecDepth 100000 in
theorem wOI2 : Cond.code Lib.objectInit ⟨#[0xb1]⟩ 1 none ∈ lw_good := (gIn (List.mem_of_getElem? (i := 78) (by decide +kernel)) (by decide +kernel))
theorem al_tail {h : gHp} {a e n ci x len d : Nat} {mc : Int32} {f : Nat → Option Nat} {vs : List Value} {Z : Option Value → gHp → Prop} {ZX : String → gHp → Prop} {mc' ms' rc' rs' : Nat} (hci : gCi ci) (ha : h a = some (gJ 4 [.int mc, .ref e, .int (nI len)])) (he : h e = some (gO Γ n f)) (hlt : len < n) (hn : n ≤ 64) (hae : a ≠ e) (hx : h x = some (gJ ci vs)) (hz : Z none (gUp (gUp h e (gO Γ n (va_up f len (some x)))) a (gJ 4 [.int mc, .ref e, .int (nI (len + 1))]))) : G Γ M_Jx4a65c_add_72be8 d mc' ms' Z ZX rc' rs' 11 [some (.ref a), some (.ref x), some (.ref e), some (.int (nI len))] [] h := by
  obtain ⟨r, hr1, hr2⟩ := hci
  refine g_blk [(.aload_n 2, .null), (.iload_n 3, .null), (.aload_n 1, .null)] (Nat.le_of_ble_eq_true rfl) (by decide +kernel) ?_
  refine gx_aload_n_2 (gx_iload_n_3 (gx_aload_n_1 ((gx_nil ?_))))
  refine g_aastore (by decide +kernel) he hx hr1 hr2 (vp_in_nI (by omega) (by omega)) ?_
  rw [nI_clamp (by omega)]
  have ha1 : gUp h e (gO Γ n (va_up f len (some x))) a = some (gJ 4 [.int mc, .ref e, .int (nI len)]) := by rw [gUp_n _ _ hae]; exact ha
  refine g_blk [(.aload_n 0, .null), (.iload_n 3, .null), (.iconst 1, .int (nI 1)), (.iadd, .null)] (Nat.le_of_ble_eq_true rfl) (by decide +kernel) ?_
  refine gx_aload_n_0 (gx_iload_n_3 (gx_iconst (gx_iadd ((gx_nil ?_)))))
  try simp only [nI_add, Nat.add_zero, Nat.zero_add, Nat.reduceAdd]
  refine g_putf fJx4a65c_48 (by decide +kernel) ha1 (by simp) rfl rfl ?_
  exact g_end none rfl ⟨by decide +kernel, rfl⟩ hz
theorem al_grow1 {h : gHp} {a e n ci mi : Nat} {mc : Int32} {f : Nat → Option Nat} {xs : List Nat} (hp : gPall Γ de mi) (H : gALx Γ de h a mc e n f xs) (hxs : xs.length = n) (hn : n ≤ 40) (hci : gCi ci) (hE : gEl h ci xs) : gC Γ M_Jx4a65c_grow_d5877 [.ref a] h 5 1 64 (grZ Γ h a n mc xs) (fun _ _ => False) := by
  obtain ⟨ha, -⟩ := id H
  refine gC_of (by decide) rfl (Nat.le_of_ble_eq_true rfl) [some (.ref a)] rfl ?_
  refine g_blk [(.aload_n 0, .null), (.aload_n 0, .null)] (Nat.le_of_ble_eq_true rfl) (by decide +kernel) ?_
  refine gx_aload_n_0 (gx_aload_n_0 ((gx_nil ?_)))
  refine g_getf fJx4a65c_48 (by decide +kernel) ha rfl ?_
  refine g_blk [(.iconst 1, .int (nI 1)), (.iadd, .null)] (Nat.le_of_ble_eq_true rfl) (by decide +kernel) ?_
  refine gx_iconst (gx_iadd ((gx_nil ?_)))
  try simp only [nI_add, Nat.add_zero, Nat.zero_add, Nat.reduceAdd]
  rw [hxs]
  refine g_callV (rc' := 0) (rs' := 0) kJx4a65c_69 (al_grow2 hp H hxs hn hci hE) (by decide +kernel) rfl rfl ha rfl (Nat.le_of_ble_eq_true rfl) (Nat.le_of_ble_eq_true rfl) (Nat.le_of_ble_eq_true rfl) (by omega) (by omega) rfl (fun _ _ z => z) (fun v h1 hz => ?_)
  have hz2 := hz
  obtain ⟨q, n', f', rfl, hz3⟩ := hz
  simp only [Option.toList_some, List.cons_append, List.nil_append]
  exact g_end (some (.ref q)) rfl ⟨by decide +kernel, _, rfl, Or.inr ⟨_, rfl⟩⟩ hz2
def adZ (Γ : gE) (de : Nat) (h : gHp) (a e n : Nat) (mc : Int32) (ys : List Nat) : Option Value → gHp → Prop := fun v h' => v = none ∧ ∃ e' n' f', gALx Γ de h' a mc e' n' f' ys ∧ ((e' = e ∧ n' = n) ∨ h e' = none) ∧ gKeep (fun z => z ∈ fpL a e n) h h'
theorem adZ_of {h h1 : gHp} {a e n e1 n1 x : Nat} {mc : Int32} {f : Nat → Option Nat} {xs : List Nat} (hlt : xs.length < n1) (hn : n1 ≤ 64) (hf : ∀ i y, xs[i]? = some y → f i = some y) (hae : a ≠ e1) (hsame : (e1 = e ∧ n1 = n) ∨ h e1 = none) (hk : gKeep (fun z => z ∈ fpL a e n) h h1) : adZ Γ de h a e n mc (xs ++ [x]) none (gUp (gUp h1 e1 (gO Γ n1 (va_up f xs.length (some x)))) a (gJ 4 [.int mc, .ref e1, .int (nI (xs.length + 1))])) := by
  refine ⟨rfl, e1, n1, va_up f xs.length (some x), ⟨?_, ?_, hn, ?_, Or.inr ⟨by omega, ?_, hae⟩⟩, hsame, ?_⟩
  · rw [gUp_s, List.length_append]; rfl
  · rw [List.length_append]; exact hlt
  · intro i y hy
    unfold va_up
    by_cases z : i = xs.length
    · rw [if_pos z]
      subst z
      rw [List.getElem?_append_right (Nat.le_refl _), Nat.sub_self] at hy
      exact hy
    · rw [if_neg z]
      have hil : i < xs.length := by
        have := (List.getElem?_eq_some_iff.mp hy).1
        rw [List.length_append] at this
        have h1 : [x].length = 1 := rfl
        omega
      rw [List.getElem?_append_left hil] at hy
      exact hf i y hy
  · rw [gUp_n _ _ hae.symm, gUp_s]
  · intro z e9 hz h9
    have hza : z ≠ a := fun y => hz (by unfold fpL; split <;> simp [y])
    have hze : z ≠ e1 := by
      rcases hsame with ⟨y1, y2⟩ | y
      · exact fun y3 => hz (by unfold fpL; rw [if_neg (by omega)]; simp [y3, y1])
      · exact fun y3 => by rw [y3, y] at h9; cases h9
    rw [gUp_n _ _ hza, gUp_n _ _ hze]
    exact hk z e9 hz h9
theorem al_add3 {h : gHp} {a e n ci mi x : Nat} {mc : Int32} {f : Nat → Option Nat} {xs : List Nat} (hp : gPall Γ de mi) (H : gALx Γ de h a mc e n f xs) (hl : xs.length ≤ 40) (hci : gCi ci) (hc4 : ci ≠ 4) (hE : gEl h ci xs) (hx : ∃ vs, h x = some (gJ ci vs)) : gC Γ M_Jx4a65c_add_72be8 [.ref a, .ref x, .ref e, .int (nI xs.length)] h 6 1 64 (adZ Γ de h a e n mc (xs ++ [x])) (fun _ _ => False) := by
  obtain ⟨vs, hx⟩ := hx
  obtain ⟨ha, h1, h2, h3, h4⟩ := id H
  refine gC_of (by decide) rfl (Nat.le_of_ble_eq_true rfl) [some (.ref a), some (.ref x), some (.ref e), some (.int (nI xs.length))] rfl ?_
  rcases Nat.lt_or_ge xs.length n with hlt | hge
  · obtain ⟨hn0, he, hae⟩ := h4.resolve_left (fun z => by omega)
    refine g_blk [(.iload_n 3, .null), (.aload_n 2, .null)] (Nat.le_of_ble_eq_true rfl) (by decide +kernel) ?_
    refine gx_iload_n_3 (gx_aload_n_2 ((gx_nil ?_)))
    refine g_alen_q (by decide +kernel) he ?_
    rw [show Int32.ofNat n = nI n from rfl]
    refine g_icmp_ne (off := 8) (tgt := 11) (by decide +kernel) (by decide) (fun c3 => ?_) (fun c3 => ?_)
    · try simp only [bI_0, Decidable.not_not] at c3
      exact al_tail hci ha he hlt h2 hae hx (adZ_of hlt h2 h3 hae (Or.inl ⟨rfl, rfl⟩) gKeep.rf)
    · try simp only [bI_0, Decidable.not_not] at c3
      exact absurd ((nI_eq (by omega) (by omega)).mp c3) (by omega)
  · have hxs : xs.length = n := by omega
    rcases h4 with ⟨hn0, hde⟩ | ⟨hn0, he, hae⟩
    · skip
      refine g_blk [(.iload_n 3, .null), (.aload_n 2, .null)] (Nat.le_of_ble_eq_true rfl) (by decide +kernel) ?_
      refine gx_iload_n_3 (gx_aload_n_2 ((gx_nil ?_)))
      rw [hde]
      refine g_alenP hp.1.2 (by decide +kernel) ?_
      rw [← hde]
      refine g_icmp_ne (off := 8) (tgt := 11) (by decide +kernel) (by decide) (fun c3 => ?_) (fun c3 => ?_)
      · try simp only [bI_0, Decidable.not_not] at c3
        exact absurd (by rw [hxs, hn0]) c3
      · try simp only [bI_0, Decidable.not_not] at c3
        refine g_blk [(.aload_n 0, .null)] (Nat.le_of_ble_eq_true rfl) (by decide +kernel) ?_
        refine gx_aload_n_0 ((gx_nil ?_))
        refine g_callV (rc' := 0) (rs' := 0) kJx4a65c_129 (al_grow1 hp H hxs (by omega) hci hE) (by decide +kernel) rfl rfl ha rfl (Nat.le_of_ble_eq_true rfl) (Nat.le_of_ble_eq_true rfl) (Nat.le_of_ble_eq_true rfl) (by omega) (by omega) rfl (fun _ _ z => z.elim) (fun v h5 hz => ?_)
        obtain ⟨q, n', f', rfl, hq, hnn, hn64, hf', ha5, hq5, hk5⟩ := hz
        simp only [Option.toList_some, List.cons_append, List.nil_append]
        have hxa : x ≠ a := fun z => by rw [z, ha] at hx; cases hx; exact hc4 rfl
        have hx5 := hk5 x _ hxa hx
        have haq : a ≠ q := fun z => by rw [← z, ha] at hq; cases hq
        refine g_blk [(.astore_n 2, .null)] (Nat.le_of_ble_eq_true rfl) (by decide +kernel) ?_
        refine gx_astore_n_2 rfl ((gx_nil ?_))
        exact al_tail hci ha5 hq5 (by omega) hn64 haq hx5 (adZ_of (by omega) hn64 hf' haq (Or.inr hq) (fun z e9 hz h9 => hk5 z e9 (fun y => hz (by unfold fpL; split <;> simp [y])) h9))
    · skip
      refine g_blk [(.iload_n 3, .null), (.aload_n 2, .null)] (Nat.le_of_ble_eq_true rfl) (by decide +kernel) ?_
      refine gx_iload_n_3 (gx_aload_n_2 ((gx_nil ?_)))
      refine g_alen_q (by decide +kernel) he ?_
      rw [show Int32.ofNat n = nI n from rfl]
      refine g_icmp_ne (off := 8) (tgt := 11) (by decide +kernel) (by decide) (fun c3 => ?_) (fun c3 => ?_)
      · try simp only [bI_0, Decidable.not_not] at c3
        exact absurd (by rw [hxs]) c3
      · try simp only [bI_0, Decidable.not_not] at c3
        refine g_blk [(.aload_n 0, .null)] (Nat.le_of_ble_eq_true rfl) (by decide +kernel) ?_
        refine gx_aload_n_0 ((gx_nil ?_))
        refine g_callV (rc' := 0) (rs' := 0) kJx4a65c_129 (al_grow1 hp H hxs (by omega) hci hE) (by decide +kernel) rfl rfl ha rfl (Nat.le_of_ble_eq_true rfl) (Nat.le_of_ble_eq_true rfl) (Nat.le_of_ble_eq_true rfl) (by omega) (by omega) rfl (fun _ _ z => z.elim) (fun v h5 hz => ?_)
        obtain ⟨q, n', f', rfl, hq, hnn, hn64, hf', ha5, hq5, hk5⟩ := hz
        simp only [Option.toList_some, List.cons_append, List.nil_append]
        have hxa : x ≠ a := fun z => by rw [z, ha] at hx; cases hx; exact hc4 rfl
        have hx5 := hk5 x _ hxa hx
        have haq : a ≠ q := fun z => by rw [← z, ha] at hq; cases hq
        refine g_blk [(.astore_n 2, .null)] (Nat.le_of_ble_eq_true rfl) (by decide +kernel) ?_
        refine gx_astore_n_2 rfl ((gx_nil ?_))
        exact al_tail hci ha5 hq5 (by omega) hn64 haq hx5 (adZ_of (by omega) hn64 hf' haq (Or.inr hq) (fun z e9 hz h9 => hk5 z e9 (fun y => hz (by unfold fpL; split <;> simp [y])) h9))
theorem fpL_mem {a e n : Nat} : a ∈ fpL a e n := by unfold fpL; split <;> simp
theorem al_add {h : gHp} {a ci mi x : Nat} {fp xs : List Nat} (hp : gPall Γ de mi) (H : gAL Γ de h a fp xs) (hl : xs.length ≤ 40) (hci : gCi ci) (hc4 : ci ≠ 4) (hE : gEl h ci xs) (hx : ∃ vs, h x = some (gJ ci vs)) : gC Γ M_Jx4a65c_add_9ea2d [.ref a, .ref x] h 7 1 64 (fun v h' => v = some (.int (nI 1)) ∧ ∃ fp', gAL Γ de h' a fp' (xs ++ [x]) ∧ (∀ q ∈ fp', q ∈ fp ∨ h q = none) ∧ gKeep (fun q => q ∈ fp) h h') (fun _ _ => False) := by
  obtain ⟨mc, e, n, f, ⟨ha, h1, h2, h3, h4⟩, rfl⟩ := H
  have hE2 : ∀ y, (∃ vs, h y = some (gJ ci vs)) → ∃ vs, gUp h a (gJ 4 [.int (mc + nI 1), .ref e, .int (nI xs.length)]) y = some (gJ ci vs) := fun y ⟨vs, hy⟩ => ⟨vs, by rw [gUp_n _ _ (fun z => by rw [z, ha] at hy; cases hy; exact hc4 rfl)]; exact hy⟩
  have hA1 : gALx Γ de (gUp h a (gJ 4 [.int (mc + nI 1), .ref e, .int (nI xs.length)])) a (mc + nI 1) e n f xs := ⟨gUp_s _ _ _, h1, h2, h3, h4.imp id (fun z => ⟨z.1, (gUp_n _ _ z.2.2.symm).trans z.2.1, z.2.2⟩)⟩
  refine gC_of (by decide) rfl (Nat.le_of_ble_eq_true rfl) [some (.ref a), some (.ref x)] rfl ?_
  refine g_blk [(.aload_n 0, .null), (.dup, .null)] (Nat.le_of_ble_eq_true rfl) (by decide +kernel) ?_
  refine gx_aload_n_0 (gx_dupr ((gx_nil ?_)))
  refine g_getf fJx4a65c_63 (by decide +kernel) ha rfl ?_
  refine g_blk [(.iconst 1, .int (nI 1)), (.iadd, .null)] (Nat.le_of_ble_eq_true rfl) (by decide +kernel) ?_
  refine gx_iconst (gx_iadd ((gx_nil ?_)))
  refine g_putf fJx4a65c_63 (by decide +kernel) ha (by simp) rfl rfl ?_
  refine g_hp (show gUp h a (gJ 4 [.int (mc + nI 1), .ref e, .int (nI xs.length)]) = _ from rfl) ?_
  refine g_blk [(.aload_n 0, .null), (.aload_n 1, .null), (.aload_n 0, .null)] (Nat.le_of_ble_eq_true rfl) (by decide +kernel) ?_
  refine gx_aload_n_0 (gx_aload_n_1 (gx_aload_n_0 ((gx_nil ?_))))
  refine g_getf fJx4a65c_9 (by decide +kernel) (gUp_s _ _ _) rfl ?_
  refine g_blk [(.aload_n 0, .null)] (Nat.le_of_ble_eq_true rfl) (by decide +kernel) ?_
  refine gx_aload_n_0 ((gx_nil ?_))
  refine g_getf fJx4a65c_48 (by decide +kernel) (gUp_s _ _ _) rfl ?_
  refine g_callV (rc' := 0) (rs' := 0) kJx4a65c_131 (al_add3 hp hA1 hl hci hc4 (fun y hy => hE2 y (hE y hy)) (hE2 x hx)) (by decide +kernel) rfl rfl (gUp_s _ _ _) rfl (Nat.le_of_ble_eq_true rfl) (Nat.le_of_ble_eq_true rfl) (Nat.le_of_ble_eq_true rfl) (by omega) (by omega) rfl (fun _ _ z => z.elim) (fun v h5 hz => ?_)
  obtain ⟨rfl, e', n', f', hA5, hs5, hk5⟩ := hz
  simp only [Option.toList_none, List.nil_append]
  refine g_blk [(.iconst 1, .int (nI 1))] (Nat.le_of_ble_eq_true rfl) (by decide +kernel) ?_
  refine gx_iconst ((gx_nil ?_))
  refine g_end (some (.int _)) rfl ⟨by decide +kernel, _, rfl, rfl⟩ ⟨rfl, fpL a e' n', ⟨_, _, _, _, hA5, rfl⟩, fun q hq => ?_, fun z e9 hz h9 => ?_⟩
  · rcases hs5 with ⟨y1, y2⟩ | y
    · exact Or.inl (by rw [← y1, ← y2]; exact hq)
    · unfold fpL at hq
      split at hq
      · exact Or.inl (by rw [List.mem_singleton.mp hq]; exact fpL_mem)
      · rcases List.mem_cons.mp hq with z | z
        · exact Or.inl (by rw [z]; exact fpL_mem)
        · refine Or.inr ?_
          rw [List.mem_singleton.mp z]
          by_cases y3 : e' = a
          · rw [y3, gUp_s] at y; cases y
          · rw [gUp_n _ _ y3] at y; exact y
  · have hza : z ≠ a := fun y => hz (by rw [y]; exact fpL_mem)
    exact hk5 z e9 hz (by rw [gUp_n _ _ hza]; exact h9)
end GAl3
