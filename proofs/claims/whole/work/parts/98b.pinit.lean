/-! A PARSER MADE -/
section GPn
variable {Γ : gE} {h : gHp} {de o tb n : Nat} {tx ks : Nat → Nat}
theorem ps_init {f : Nat → Int32} (hpl : gPal Γ de) (ho : h o = some (gJ 8 [.null, .int 0, .int 0, .null])) (ht : h tb = some (gCh Γ 60 f)) (hf : ∀ i, i < n → f i = nI (tx i) ∧ tx i < 128) (hn : n ≤ 60) : gC Γ M_X5_init [.ref o, .ref tb, .int (nI n)] h 4 1 3 (fun v h' => v = none ∧ ∃ cl, h cl = none ∧ gPL Γ de h' o tb n 0 cl tx ks [cl] [] ∧ gKeep (fun z => z = o) h h') (fun _ _ => False) := by
  have hto : tb ≠ o := fun z => by
    rw [z, ho] at ht
    have z2 := congrArg (fun x : Option va_E => match x with | some (.inl _) => true | _ => false) ht
    cases z2
  refine gC_of (by decide) rfl (Nat.le_of_ble_eq_true rfl) [some (.ref o), some (.ref tb), some (.int (nI n))] rfl ?_
  refine g_blk [(.aload_n 0, .null)] (Nat.le_of_ble_eq_true rfl) (by decide +kernel) ?_
  refine gx_aload_n_0 ((gx_nil ?_))
  refine g_objInit wOIRX5 wOI1 wOI2 (by decide +kernel) (by omega) (Nat.le_of_ble_eq_true rfl) ?_
  refine g_blk [(.aload_n 0, .null), (.iconst 0, .int (nI 0))] (Nat.le_of_ble_eq_true rfl) (by decide +kernel) ?_
  refine gx_aload_n_0 (gx_iconst ((gx_nil ?_)))
  refine g_putf fX5_9 (by decide +kernel) ho (by simp) rfl rfl ?_
  obtain ⟨g1, eg1⟩ : ∃ z, z = gUp h o (gJ 8 [.null, .int 0, .int 0, .null]) := ⟨_, rfl⟩
  refine g_hp eg1 ?_
  have o1 : g1 o = some (gJ 8 [.null, .int 0, .int 0, .null]) := by rw [eg1]; exact gUp_s _ _ _
  have t1 : g1 tb = some (gCh Γ 60 f) := by rw [eg1, gUp_n _ _ hto]; exact ht
  have k1 : gKeep (fun z => z = o) h g1 := by rw [eg1]; exact gKeep.up rfl
  clear eg1
  refine g_blk [(.aload_n 0, .null)] (Nat.le_of_ble_eq_true rfl) (by decide +kernel) ?_
  refine gx_aload_n_0 ((gx_nil ?_))
  refine g_new nX5_15 (rc' := 0) (rs' := 0) (by decide +kernel) (by omega) (by simp) (fun cl h_cl => ?_)
  have oc : o ≠ cl := fun z => by rw [← z, o1] at h_cl; cases h_cl
  have tc : tb ≠ cl := fun z => by rw [← z, t1] at h_cl; cases h_cl
  have n_cl : h cl = none := gK_no (S := fun z => z = o) k1 (fun z y => by rw [y]; exact ⟨_, o1⟩) h_cl
  refine g_blk [(.dup, .null)] (Nat.le_of_ble_eq_true rfl) (by decide +kernel) ?_
  refine gx_dupr ((gx_nil ?_))
  refine g_callI (rc' := 0) (rs' := 0) kX5_17 (al_init hpl (gUp_s _ _ _)) (by decide +kernel) rfl rfl rfl (Nat.le_of_ble_eq_true rfl) (Nat.le_of_ble_eq_true rfl) (Nat.le_of_ble_eq_true rfl) (by omega) (by omega) rfl (fun _ _ z => z.elim) (fun v9 h5 hz => ?_)
  obtain ⟨rfl, HL5, k5⟩ := hz
  have o5 : h5 o = some (gJ 8 [.null, .int 0, .int 0, .null]) := k5 o _ oc ((gUp_n _ _ oc).trans o1)
  have t5 : h5 tb = some (gCh Γ 60 f) := k5 tb _ tc ((gUp_n _ _ tc).trans t1)
  have k6 : gKeep (fun z => z = o) h h5 := gK_tr k1 (S1 := fun z => z = cl) (fun z e z1 z2 => k5 z e z1 ((gUp_n _ _ z1).trans z2)) (fun z y => Or.inr (by rw [y]; exact n_cl))
  simp only [Option.toList_some, Option.toList_none, List.cons_append, List.nil_append]
  refine g_putfF fX5_18 fin8_3 rfl (by decide +kernel) o5 (by simp) rfl rfl ?_
  refine g_blk [(.aload_n 0, .null), (.aload_n 1, .null)] (Nat.le_of_ble_eq_true rfl) (by decide +kernel) ?_
  refine gx_aload_n_0 (gx_aload_n_1 ((gx_nil ?_)))
  refine g_putfF fX5_22 fin8_0 rfl (by decide +kernel) (gUp_s _ _ _) (by simp) rfl rfl ?_
  refine g_blk [(.aload_n 0, .null), (.iload_n 2, .null)] (Nat.le_of_ble_eq_true rfl) (by decide +kernel) ?_
  refine gx_aload_n_0 (gx_iload_n_2 ((gx_nil ?_)))
  refine g_putfF fX5_26 fin8_1 rfl (by decide +kernel) (gUp_s _ _ _) (by simp) rfl rfl ?_
  refine g_end none rfl ⟨by decide +kernel, rfl⟩ ?_
  have o9 : o ∉ [cl] := fun z => oc (List.mem_singleton.mp z)
  simp only [gUp_gUp]
  refine ⟨trivial, cl, n_cl, ⟨⟨gUp_s _ _ _, ⟨f, (gUp_n _ _ hto).trans t5, hf⟩, hn⟩, o9, fun z => tc (List.mem_singleton.mp z), [], gAL_kp HL5 (gKeep.up (S := fun z => z = o) rfl) (fun q hq z => o9 (by rw [← z]; exact hq)), rfl, fun i a x hx _ => by cases hx⟩, k6.tr (gKeep.up rfl)⟩
end GPn
