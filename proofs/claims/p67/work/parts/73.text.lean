/-! TEXT: RULES AND LINKS -/
section GTx
variable {Γ : gE} {M : gM} {d mc ms : Nat} {Z : Option Value → gHp → Prop} {ZX : String → gHp → Prop} {rc rs pc : Nat} {L L' : List (Option Value)} {st st' : List Value} {h : gHp}
/-- a private method of the superclass, at an object of the class below -/
theorem g_sel_up {C : String} {y y0 : MethodName} {s : State} {args : Array Value} (hy : y.cls ≠ "java/lang/invoke/MethodHandle" ∧ y.cls ≠ "java/lang/invoke/VarHandle")
    (h0 : (Cond.selects C y0 y0).before args s = true) (e : y0.cls = y.cls) (hpriv : (Cond.privateMethod y).before args s = true) (hinst : (Cond.instanceMethod y).before args s = true) :
    (Cond.selects C y y).before args s = true := by
  obtain ⟨c, r2, m2, hc, q2, q3, q4, kP, hkP, hkPi⟩ := Cond.selects_spec h0
  obtain ⟨mk, methM, hnamed, hmethM, -, -⟩ := Cond.instanceMethod_spec hinst
  have hfound : s.methodFound? y.cls y.name y.desc = some mk := State.methodFound?_of_named hnamed hy
  have hsel : selectMethod {} s.vm c mk = .method mk := selectMethod_private hmethM (Cond.privateMethod_at hpriv mk methM hnamed hmethM)
  have hcls : mk.cls = m2.cls := Option.some.inj ((findClass_of_methodNamed hnamed).symm.trans ((congrArg s.vm.findClass e.symm).trans (findClass_of_methodNamed q3)))
  simp only [Cond.before, Cond.holds, Cond.value, hc, hfound, hnamed, hsel, hcls, hkP]
  simp [hkPi]
def gPsel (Γ : gE) (C : String) (y : MethodName) : Prop := ∀ U, gK Γ U → ∀ a : Array Value, (Cond.selects C y y).before a U = true
def gLkUp (own : String) (idx ci : Nat) (C : String) (M' : gM) (n : Nat) : Prop := (∃ (T : u_T) (N : Nat), vwCl[ci]? = some (C, T, N)) ∧ (Cond.methodLink own idx M'.1 ∈ lw_good ∧ Cond.sameMethod M'.1.cls M'.1.cls M'.1.name M'.1.desc ∈ lw_good ∧ Cond.instanceMethod M'.1 ∈ lw_good ∧ Cond.initialized M'.1.cls ∈ lw_good) ∧ gW M' ∈ lw_good ∧ M'.2.2.2.2 = [] ∧ M'.1.cls ≠ "java/lang/invoke/MethodHandle" ∧ M'.1.cls ≠ "java/lang/invoke/VarHandle" ∧ (parseMethodDescriptor M'.1.desc).map (fun d => d.parameters.length) = some n
theorem g_callUp {C9 : String} {idx n d' mc' ms' rc' rs' : Nat} {M' : gM} {av : List Value} {Z' : Option Value → gHp → Prop} {ZX' : String → gHp → Prop} {ci b : Nat} {As fs : List Value} (hlk : gLkUp M.1.cls idx ci C9 M' n) (hsel : gPsel Γ C9 M'.1) (hC : gC Γ M' av h d' mc' ms' Z' ZX') (hd : decode M.2.1 pc = .ok (.invokevirtual idx, 3)) (hst : st' = av.reverse ++ st) (hav : av = .ref b :: As) (ho : h b = some (.inr (ci, fs))) (hn : av.length = n + 1) (hdd : d' + 1 ≤ d) (hnl : M'.2.2.1 ≤ 80) (hcat : (st.map fun v => v.category).sum ≤ 8) (h1 : rc' + mc' ≤ rc) (h2 : rs' + ms' ≤ rs) (hh : M.2.2.2.2 = []) (kx : ∀ (E : String) (h' : gHp), ZX' E h' → ZX E h') (kk : ∀ (v : Option Value) (h' : gHp), Z' v h' → G Γ M d mc ms Z ZX rc' rs' (pc + 3) L (v.toList ++ st) h') : G Γ M d mc ms Z ZX rc rs pc L st' h := by
  intro p e R s m args below meth c H locs cells slots ls C hd1 hd2 hd3 hd4 ha hl hc hs
  obtain ⟨hx, hb, hml, hown, hts, hr, hlocks, htb, hnm, hok, hK, hbs⟩ := id C
  obtain ⟨ws, g, hP, hD, hS⟩ := id ha
  have hA : ∀ q, s.heap.size ≤ q → gA Γ q := fun q z => Nat.le_trans hbs z
  subst hst
  have hroom : (gRm d' mc' ms').frames + 1 ≤ R.frames ∧ 8 + (M'.2.2.1 + 11) + (gRm d' mc' ms').locals ≤ R.locals := by
    unfold gRm
    dsimp only
    omega
  have hPc : ∀ U : State, U.heap = H → s.WarmedH U.vm → va_Pc av (gU Γ h) av.toArray U := fun U hU hW => ⟨rfl, gAt_U hok hK hbs ha hU hW⟩
  refine g_after (av := av.toArray) (mc' := mc') (ms' := ms') (rc' := rc') (rs' := rs') ?_ C hd1 hd2 hd3 hd4 ha hl (by omega) (by omega) (fun E q h' H1 locs1 ce hz ha1 e1 e2 e3 => g_outx hh C ha1 (kx E h' hz) e1 e2 e3 (by omega) (by omega)) kk
  obtain ⟨⟨T9, N9, c1⟩, ⟨l1, l2, l3, l4⟩, l5, l6, l7, l8, l9⟩ := hlk
  have hw := gWno l6
  subst hav
  obtain ⟨q0, hq0⟩ := gGr_get g ho
  have hG : GoodIn lw_good (gW M' :: lw_good) := gGoodW l5
  have hc9 : Cond.code M'.1 M'.2.1 M'.2.2.1 M'.2.2.2.1 ∈ gW M' :: lw_good := by rw [hw]; exact List.mem_cons_self
  exact vx_runU (x := M'.1) (As := As) ⟨hx, hb, hml, hown, hts⟩ (hC hok) (ws := gW M' :: lw_good) (C := C9) (owner := M'.1.cls) ⟨⟨rfl, rfl, hroom.1, hroom.2, pay_in hts hG, hc9⟩, hts _ (hG _ hc9).1, hts _ l4, ⟨l7, l8⟩, fun sig h9 => by
    have h2 := l9
    rw [h9] at h2
    exact (Option.some.inj h2).symm, hts _ l1, hts _ l2, va_Decl.of (hts _ l3) (hts _ (hG _ hc9).1), hsel s hK args, hts _ l3⟩ ⟨gBlind hok, va_recv (hok.2.1 s hK).1 hP c1 hq0, hPc⟩ rfl (by simpa using hn) hl.1 (by simp) (lv_room hcat) hd ⟨by omega, by omega⟩
theorem g_copyb {idx a0 a1 n0 n1 : Nat} {f g0 : Nat → Int32} {sp dp n : Int32} (hd : decode M.2.1 pc = .ok (.invokestatic idx, 3)) (hw1 : Cond.methodLink M.1.cls idx arraycopyName ∈ lw_good) (ho0 : h a0 = some (gB Γ n0 f)) (ho1 : h a1 = some (gB Γ n1 g0)) (h1 : ¬ sp < 0) (h2 : ¬ dp < 0) (h3 : ¬ n < 0) (h4 : sp.toNatClampNeg + n.toNatClampNeg ≤ n0) (h5 : dp.toNatClampNeg + n.toNatClampNeg ≤ n1) (hfit : ∀ i : Nat, i < n.toNatClampNeg → fits .byte (.int (f (sp.toNatClampNeg + i))) = true) (hdd : 1 ≤ d) (hcat : (st.map fun v => v.category).sum ≤ 8) (kk : G Γ M d mc ms Z ZX rc rs (pc + 3) L st (gUp h a1 (gB Γ n1 (va_cpy f g0 sp.toNatClampNeg dp.toNatClampNeg n.toNatClampNeg)))) : G Γ M d mc ms Z ZX rc rs pc L (.int n :: .int dp :: .ref a1 :: .int sp :: .ref a0 :: st) h := by
  intro p e R s m args below meth c H locs cells slots ls C hd1 hd2 hd3 hd4 ha hl hc hs
  obtain ⟨hx, hb, hml, hown, hts, hr, hlocks, htb, hnm, hok, hK, hbs⟩ := id C
  obtain ⟨ws, g, hP, hD, hS⟩ := id ha
  obtain ⟨q0, hq0⟩ := gGr_get g ho1
  obtain ⟨q1, hq1⟩ := gGr_get g ho0
  refine va_copyi hx hb (by rw [hl.1, hml]) hown (hts _ hw1) (hts _ wCP2) (hts _ wCP3) (hts _ wCP4) (hok.2.1 s hK).1 hP hD hS q1 q0 1 1 (ty := .byte) hq1 hq0 rfl rfl rfl h1 h2 h3 h4 h5 hfit (by omega) ?_ hd (fun H1 locs1 hP1 hD1 hS1 => kk p e R s m args below meth c H1 locs1 cells slots ls C hd1 hd2 hd3 hd4 ⟨_, gGr_set g hD _ hq0, hP1, hD1, hS1⟩ hl hc hs)
  have e9 : nativeFrameWords "java/lang/System" "arraycopy" 5 ≤ 60 := by decide +kernel
  omega
theorem g_copyt {idx a0 a1 n0 n1 : Nat} {f g0 : Nat → Int32} {sp dp n : Int32} (hd : decode M.2.1 pc = .ok (.invokestatic idx, 3)) (hw1 : Cond.methodLink M.1.cls idx arraycopyName ∈ lw_good) (ho0 : gPa Γ .byte a0 n0 (fun j => .int (f j))) (ho1 : h a1 = some (gB Γ n1 g0)) (h1 : ¬ sp < 0) (h2 : ¬ dp < 0) (h3 : ¬ n < 0) (h4 : sp.toNatClampNeg + n.toNatClampNeg ≤ n0) (h5 : dp.toNatClampNeg + n.toNatClampNeg ≤ n1) (hfit : ∀ i : Nat, i < n.toNatClampNeg → fits .byte (.int (f (sp.toNatClampNeg + i))) = true) (hdd : 1 ≤ d) (hcat : (st.map fun v => v.category).sum ≤ 8) (kk : G Γ M d mc ms Z ZX rc rs (pc + 3) L st (gUp h a1 (gB Γ n1 (va_cpy f g0 sp.toNatClampNeg dp.toNatClampNeg n.toNatClampNeg)))) : G Γ M d mc ms Z ZX rc rs pc L (.int n :: .int dp :: .ref a1 :: .int sp :: .ref a0 :: st) h := by
  intro p e R s m args below meth c H locs cells slots ls C hd1 hd2 hd3 hd4 ha hl hc hs
  obtain ⟨hx, hb, hml, hown, hts, hr, hlocks, htb, hnm, hok, hK, hbs⟩ := id C
  obtain ⟨ws, g, hP, hD, hS⟩ := id ha
  obtain ⟨q0, hq0⟩ := gGr_get g ho1
  refine vk_copyt hx hb (by rw [hl.1, hml]) hown (hts _ hw1) (hts _ wCP2) (hts _ wCP3) (hts _ wCP4) (hok.2.1 s hK).1 hP hD hS (ho0 s hK) q0 1 hq0 rfl h1 h2 h3 h4 h5 hfit (by omega) ?_ hd (fun H1 locs1 hP1 hD1 hS1 => kk p e R s m args below meth c H1 locs1 cells slots ls C hd1 hd2 hd3 hd4 ⟨_, gGr_set g hD _ hq0, hP1, hD1, hS1⟩ hl hc hs)
  have e9 : nativeFrameWords "java/lang/System" "arraycopy" 5 ≤ 60 := by decide +kernel
  omega
end GTx
section GTl
set_option maxRecDepth 100000 in
theorem kJ4_50 : gLkSU RJ4 50 1 M_J5_append_3fe6f 1 := ⟨TJ4, 4, rfl, fun w hw => ((gAtOk (ws := va_wsSU RJ4 50 M_J5_append_3fe6f.1 []) (by decide +kernel)) w hw).resolve_right (fun z => absurd (List.mem_filter.mp z).2 ((by decide +kernel : ∀ w ∈ va_wsSU RJ4 50 M_J5_append_3fe6f.1 [], ¬ gFar w = true) w hw)), (gIn (List.mem_of_getElem? (i := 1514) (by decide +kernel)) (by decide +kernel)), rfl, by decide, by decide +kernel⟩
set_option maxRecDepth 100000 in
theorem kJ4_53 : gLkSU RJ4 53 1 M_J5_append_c97b9 1 := ⟨TJ4, 4, rfl, fun w hw => ((gAtOk (ws := va_wsSU RJ4 53 M_J5_append_c97b9.1 []) (by decide +kernel)) w hw).resolve_right (fun z => absurd (List.mem_filter.mp z).2 ((by decide +kernel : ∀ w ∈ va_wsSU RJ4 53 M_J5_append_c97b9.1 [], ¬ gFar w = true) w hw)), (gIn (List.mem_of_getElem? (i := 1341) (by decide +kernel)) (by decide +kernel)), rfl, by decide, by decide +kernel⟩
set_option maxRecDepth 100000 in
theorem kJ4_29 : gLkSU RJ4 29 1 M_J5_append_cf1ce 1 := ⟨TJ4, 4, rfl, fun w hw => ((gAtOk (ws := va_wsSU RJ4 29 M_J5_append_cf1ce.1 []) (by decide +kernel)) w hw).resolve_right (fun z => absurd (List.mem_filter.mp z).2 ((by decide +kernel : ∀ w ∈ va_wsSU RJ4 29 M_J5_append_cf1ce.1 [], ¬ gFar w = true) w hw)), (gIn (List.mem_of_getElem? (i := 1255) (by decide +kernel)) (by decide +kernel)), rfl, by decide, by decide +kernel⟩
set_option maxRecDepth 100000 in
theorem kJ4_329 : gLkSU RJ4 329 1 M_J5_charAt_5068e 1 := ⟨TJ4, 4, rfl, fun w hw => ((gAtOk (ws := va_wsSU RJ4 329 M_J5_charAt_5068e.1 []) (by decide +kernel)) w hw).resolve_right (fun z => absurd (List.mem_filter.mp z).2 ((by decide +kernel : ∀ w ∈ va_wsSU RJ4 329 M_J5_charAt_5068e.1 [], ¬ gFar w = true) w hw)), (gIn (List.mem_of_getElem? (i := 1542) (by decide +kernel)) (by decide +kernel)), rfl, by decide, by decide +kernel⟩
set_option maxRecDepth 100000 in
theorem kJ4_343 : gLkSU RJ4 343 1 M_J5_length_8abf5 0 := ⟨TJ4, 4, rfl, fun w hw => ((gAtOk (ws := va_wsSU RJ4 343 M_J5_length_8abf5.1 []) (by decide +kernel)) w hw).resolve_right (fun z => absurd (List.mem_filter.mp z).2 ((by decide +kernel : ∀ w ∈ va_wsSU RJ4 343 M_J5_length_8abf5.1 [], ¬ gFar w = true) w hw)), (gIn (List.mem_of_getElem? (i := 1390) (by decide +kernel)) (by decide +kernel)), rfl, by decide, by decide +kernel⟩
set_option maxRecDepth 100000 in
theorem kJ4_333 : gLkSU RJ4 333 1 M_J5_setLength_d00df 1 := ⟨TJ4, 4, rfl, fun w hw => ((gAtOk (ws := va_wsSU RJ4 333 M_J5_setLength_d00df.1 []) (by decide +kernel)) w hw).resolve_right (fun z => absurd (List.mem_filter.mp z).2 ((by decide +kernel : ∀ w ∈ va_wsSU RJ4 333 M_J5_setLength_d00df.1 [], ¬ gFar w = true) w hw)), (gIn (List.mem_of_getElem? (i := 1458) (by decide +kernel)) (by decide +kernel)), rfl, by decide, by decide +kernel⟩
set_option maxRecDepth 100000 in
theorem kJ5_100 : gLkUp RJ5 100 1 RJ4 M_J5_ensureCapacityInternal_d00df 1 := ⟨⟨TJ4, 4, rfl⟩, ⟨(gIn (List.mem_of_getElem? (i := 1260) (by decide +kernel)) (by decide +kernel)), (gIn (List.mem_of_getElem? (i := 1632) (by decide +kernel)) (by decide +kernel)), (gIn (List.mem_of_getElem? (i := 1262) (by decide +kernel)) (by decide +kernel)), (gIn (List.mem_of_getElem? (i := 42) (by decide +kernel)) (by decide +kernel))⟩, (gIn (List.mem_of_getElem? (i := 1263) (by decide +kernel)) (by decide +kernel)), rfl, by decide +kernel, by decide +kernel, by decide +kernel⟩
set_option maxRecDepth 100000 in
theorem kJ5_104 : gLkUp RJ5 104 1 RJ4 M_J5_newCapacity_0f7a4 1 := ⟨⟨TJ4, 4, rfl⟩, ⟨(gIn (List.mem_of_getElem? (i := 1264) (by decide +kernel)) (by decide +kernel)), (gIn (List.mem_of_getElem? (i := 1633) (by decide +kernel)) (by decide +kernel)), (gIn (List.mem_of_getElem? (i := 1266) (by decide +kernel)) (by decide +kernel)), (gIn (List.mem_of_getElem? (i := 42) (by decide +kernel)) (by decide +kernel))⟩, (gIn (List.mem_of_getElem? (i := 1267) (by decide +kernel)) (by decide +kernel)), rfl, by decide +kernel, by decide +kernel, by decide +kernel⟩
set_option maxRecDepth 100000 in
theorem kJ5_208 : gLkUp RJ5 208 1 RJ4 M_J5_putStringAt_47b60 2 := ⟨⟨TJ4, 4, rfl⟩, ⟨(gIn (List.mem_of_getElem? (i := 1301) (by decide +kernel)) (by decide +kernel)), (gIn (List.mem_of_getElem? (i := 1634) (by decide +kernel)) (by decide +kernel)), (gIn (List.mem_of_getElem? (i := 1303) (by decide +kernel)) (by decide +kernel)), (gIn (List.mem_of_getElem? (i := 42) (by decide +kernel)) (by decide +kernel))⟩, (gIn (List.mem_of_getElem? (i := 1304) (by decide +kernel)) (by decide +kernel)), rfl, by decide +kernel, by decide +kernel, by decide +kernel⟩
set_option maxRecDepth 100000 in
theorem kJ5_397 : gLkUp RJ5 397 1 RJ4 M_J5_inflateIfNeededFor_a7421 1 := ⟨⟨TJ4, 4, rfl⟩, ⟨(gIn (List.mem_of_getElem? (i := 1305) (by decide +kernel)) (by decide +kernel)), (gIn (List.mem_of_getElem? (i := 1635) (by decide +kernel)) (by decide +kernel)), (gIn (List.mem_of_getElem? (i := 1307) (by decide +kernel)) (by decide +kernel)), (gIn (List.mem_of_getElem? (i := 42) (by decide +kernel)) (by decide +kernel))⟩, (gIn (List.mem_of_getElem? (i := 1308) (by decide +kernel)) (by decide +kernel)), rfl, by decide +kernel, by decide +kernel, by decide +kernel⟩
set_option maxRecDepth 100000 in
theorem kJ5_83 : gLkU RJ5 83 1 M_J5_isLatin1_aae02.1 M_J5_isLatin1_aae02 0 := ⟨RJ4, TJ4, 4, rfl, fun w hw => ((gAtOk (ws := va_wsU RJ5 83 RJ4 RJ5 M_J5_isLatin1_aae02.1 M_J5_isLatin1_aae02.1 []) (by decide +kernel)) w hw).resolve_right (fun z => absurd (List.mem_filter.mp z).2 ((by decide +kernel : ∀ w ∈ va_wsU RJ5 83 RJ4 RJ5 M_J5_isLatin1_aae02.1 M_J5_isLatin1_aae02.1 [], ¬ gFar w = true) w hw)), (gIn (List.mem_of_getElem? (i := 1284) (by decide +kernel)) (by decide +kernel)), rfl, rfl, by decide +kernel, by decide +kernel, by decide +kernel⟩
set_option maxRecDepth 100000 in
theorem wCPst : Cond.methodLink RJ0 212 arraycopyName ∈ lw_good := (gIn (List.mem_of_getElem? (i := 1333) (by decide +kernel)) (by decide +kernel))
set_option maxRecDepth 100000 in
theorem kMJ5_138b : Cond.methodLink RJ5 138 Lib.Math.min.name ∈ lw_good := kMJ5_138
end GTl
