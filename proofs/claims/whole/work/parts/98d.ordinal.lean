/-! THE PLACE OF A KEYWORD -/
section GEo
def gLkUP (own : String) (idx : Nat) (C : String) (x : MethodName) (M' : gM) (n : Nat) : Prop := (∀ w ∈ va_wsU own idx C M'.1.cls x M'.1 [], w ∈ lw_good) ∧ gW M' ∈ lw_good ∧ M'.2.2.2.2 = [] ∧ M'.1 = ⟨M'.1.cls, x.name, x.desc⟩ ∧ M'.1.cls ≠ "java/lang/invoke/MethodHandle" ∧ M'.1.cls ≠ "java/lang/invoke/VarHandle" ∧ (parseMethodDescriptor x.desc).map (fun d => d.parameters.length) = some n
variable {Γ : gE} {M : gM} {d mc ms : Nat} {Z : Option Value → gHp → Prop} {ZX : String → gHp → Prop} {rc rs pc : Nat} {L : List (Option Value)} {st st' : List Value} {h : gHp}
theorem g_callUP {idx n d' mc' ms' rc' rs' : Nat} {M' : gM} {av : List Value} {Z' : Option Value → gHp → Prop} {ZX' : String → gHp → Prop} {b : Nat} {As : List Value} {C9 : String} {x : MethodName} (hlk : gLkUP M.1.cls idx C9 x M' n) (hC : gC Γ M' av h d' mc' ms' Z' ZX') (hd : decode M.2.1 pc = .ok (.invokevirtual idx, 3)) (hst : st' = av.reverse ++ st) (hav : av = .ref b :: As) (ho : gPo Γ C9 b) (hn : av.length = n + 1) (hdd : d' + 1 ≤ d) (hnl : M'.2.2.1 ≤ 80) (hcat : (st.map fun v => v.category).sum ≤ 8) (h1 : rc' + mc' ≤ rc) (h2 : rs' + ms' ≤ rs) (hh : M.2.2.2.2 = []) (kx : ∀ (E : String) (h' : gHp), ZX' E h' → ZX E h') (kk : ∀ (v : Option Value) (h' : gHp), Z' v h' → G Γ M d mc ms Z ZX rc' rs' (pc + 3) L (v.toList ++ st) h') : G Γ M d mc ms Z ZX rc rs pc L st' h := by
  intro p e R s m args below meth c H locs cells slots ls C hd1 hd2 hd3 hd4 ha hl hc hs
  obtain ⟨hx, hb, hml, hown, hts, hr, hlocks, htb, hnm, hok, hK, hbs⟩ := id C
  obtain ⟨ws, g, hP, hD, hS⟩ := id ha
  have hA : ∀ q, s.heap.size ≤ q → gA Γ q := fun q z => Nat.le_trans hbs z
  subst hst
  have hroom : (gRm d' mc' ms').frames + 1 ≤ R.frames ∧ 8 + (M'.2.2.1 + 11) + (gRm d' mc' ms').locals ≤ R.locals := by
    unfold gRm
    dsimp only
    omega
  have hPc : ∀ U : State, U.heap = H → s.WarmedH U.vm → va_Pc av (gU Γ h) av.toArray U := fun U hU hW => ⟨rfl, gAt_U hok hK hbs ha hU hW⟩
  refine g_after (av := av.toArray) (mc' := mc') (ms' := ms') (rc' := rc') (rs' := rs') ?_ C hd1 hd2 hd3 hd4 ha hl (by omega) (by omega) (fun E q h' H1 locs1 ce hz ha1 e1 e2 e3 => g_outx hh C ha1 (kx E h' hz) e1 e2 e3 (by omega) (by omega)) kk
  obtain ⟨l1, l5, l6, lx, l7, l8, l9⟩ := hlk
  have hw := gWno l6
  subst hav
  have hrv : ∃ cell : Cell, H[b]? = some cell ∧ cell.vm.isStatics = false ∧ s.vm.findClass C9 = some cell.cls := by
    obtain ⟨cell, z1, z2, z3, -⟩ := (ho s hK).kept hS.2.1
    exact ⟨cell, z1, z2, z3⟩
  exact vx_runU (x := x) (As := As) ⟨hx, hb, hml, hown, hts⟩ (hC hok) (va_cwU (C := C9) (owner := M'.1.cls) (ws' := lw_good) n hts (gGoodA (pre := va_wsU M.1.cls idx C9 M'.1.cls x M'.1 []) l1 l5) (by rw [hw]) rfl rfl lx ⟨l7, l8, l9⟩ hroom) ⟨gBlind hok, hrv, hPc⟩ rfl (by simpa using hn) hl.1 (by simp) (lv_room hcat) hd ⟨by omega, by omega⟩
set_option maxRecDepth 100000 in
theorem wEO : Cond.fieldLink RJx29ce0 7 RJx29ce0 "ordinal" "I" ∈ lw_good := (gIn (List.mem_of_getElem? (i := 2358) (by decide +kernel)) (by decide +kernel))
set_option maxRecDepth 100000 in
theorem wSW : Cond.fieldLink RX1 25 "MailOffice$1" "$SwitchMap$MailOffice$Keyword" "[I" ∈ lw_good := (gIn (List.mem_of_getElem? (i := 1707) (by decide +kernel)) (by decide +kernel))
set_option maxRecDepth 100000 in
theorem kX1_31 : gLkUP RX1 31 RX2 ⟨RX2, "ordinal", "()I"⟩ M_Jx29ce0_ordinal_8abf5 0 := ⟨fun w hw => ((gAtOk (ws := va_wsU RX1 31 RX2 RJx29ce0 ⟨RX2, "ordinal", "()I"⟩ M_Jx29ce0_ordinal_8abf5.1 []) (by decide +kernel)) w hw).resolve_right (fun z => absurd (List.mem_filter.mp z).2 ((by decide +kernel : ∀ w ∈ va_wsU RX1 31 RX2 RJx29ce0 ⟨RX2, "ordinal", "()I"⟩ M_Jx29ce0_ordinal_8abf5.1 [], ¬ gFar w = true) w hw)), (gIn (List.mem_of_getElem? (i := 1714) (by decide +kernel)) (by decide +kernel)), rfl, rfl, by decide +kernel, by decide +kernel, by decide +kernel⟩
/-- the keywords as a switch sees them -/
def gPsw (Γ : gE) (sm : Nat) (ks : Nat → Nat) : Prop := gPz Γ "MailOffice$1" "$SwitchMap$MailOffice$Keyword" "[I" (.ref sm) ∧ gPa Γ .int sm 10 (fun i => .int (nI (i + 1))) ∧ ∀ w, w < 10 → gPo Γ RX2 (ks w) ∧ gPf Γ RJx29ce0 "ordinal" "I" (ks w) (.int (nI w))
theorem en_ordinal {b w : Nat} (hf : gPf Γ RJx29ce0 "ordinal" "I" b (.int (nI w))) : pC Γ M_Jx29ce0_ordinal_8abf5 [.ref b] h 0 (some (.int (nI w))) := by
  refine pC_of (by decide) rfl (Nat.le_of_ble_eq_true rfl) [some (.ref b)] rfl ?_
  refine g_blk [(.aload_n 0, .null)] (Nat.le_of_ble_eq_true rfl) (by decide +kernel) ?_
  refine gx_aload_n_0 ((gx_nil ?_))
  refine g_getP hf wEO (Or.inl rfl) (by decide +kernel) ?_
  refine g_end (some (.int _)) rfl ⟨by decide +kernel, _, rfl, rfl⟩ ⟨?_, rfl⟩
  rfl
end GEo
