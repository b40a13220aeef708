/-! STRINGS THAT ARE MADE: RULES -/
section GSr
variable {Γ : gE} {M : gM} {d mc ms : Nat} {Z : Option Value → gHp → Prop} {ZX : String → gHp → Prop} {rc rs pc : Nat} {L : List (Option Value)} {st st' : List Value} {h : gHp}
theorem g_cloneb {idx a n rc' rs' : Nat} {f : Nat → Int32} (hlk : Cond.methodLink M.1.cls idx ⟨"[B", "clone", "()Ljava/lang/Object;"⟩ ∈ lw_good) (w1 : Cond.sameMethod "[B" "java/lang/Object" "clone" "()Ljava/lang/Object;" ∈ lw_good) (w2 : Cond.native ⟨"java/lang/Object", "clone", "()Ljava/lang/Object;"⟩ ∈ lw_good) (w3 : Cond.instanceMethod ⟨"java/lang/Object", "clone", "()Ljava/lang/Object;"⟩ ∈ lw_good) (w4 : Cond.selects "[B" ⟨"[B", "clone", "()Ljava/lang/Object;"⟩ ⟨"java/lang/Object", "clone", "()Ljava/lang/Object;"⟩ ∈ lw_good) (w5 : Cond.castable "[B" "java/lang/Cloneable" ∈ lw_far) (hd : decode M.2.1 pc = .ok (.invokevirtual idx, 3)) (ho : h a = some (gB Γ n f)) (hfit : ∀ i, fits .byte (.int (f i)) = true) (hd0 : 1 ≤ d) (hcat : (st.map fun v => v.category).sum ≤ 8) (h1 : rc' + 1 ≤ rc) (h2 : rs' + n ≤ rs) (kk : ∀ q : Nat, h q = none → G Γ M d mc ms Z ZX rc' rs' (pc + 3) L (.ref q :: st) (gUp h q (gB Γ n f))) : G Γ M d mc ms Z ZX rc rs pc L (.ref a :: st) h := by
  intro p e R s m args below meth c H locs cells slots ls C hd1 hd2 hd3 hd4 ha hl hc hs
  obtain ⟨hx, hb, hml, hown, hts, hr, hlocks, htb, hnm, hok, hK, hbs⟩ := id C
  obtain ⟨ws, g, hP, hD, hS⟩ := id ha
  have hA : ∀ q, s.heap.size ≤ q → gA Γ q := fun q z => Nat.le_trans hbs z
  obtain ⟨q0, hq0⟩ := gGr_get g ho
  have hfc : s.vm.findClass "[B" = some (Γ.2.2.1 1) := va_nm_byte ((hok.2.1 s hK).1.2 1 _ rfl).2
  refine va_clone hx hb (by rw [hl.1, hml]) hown (hts _ hlk) (hts _ w1) (hts _ w2) (hts _ w3) (hts _ w4) ((hok.2.1 s hK).2 _ w5) (hok.2.1 s hK).1 hP hD hS hA q0 1 (x := (n, .inl f)) (ty := .byte) hq0 rfl hfc (va_fit (fun i _ => hfit i)) (by omega) (by omega) (by omega) (by show _ + n ≤ _; omega) hd (fun q H1 hK1 hP1 hD1 hS1 => ?_)
  obtain ⟨g1, g2⟩ := gGr_push g hD1
  exact kk q g2 p e R s m args below meth c H1 locs (cells + 1) (slots + n) ls C hd1 hd2 hd3 hd4 ⟨_, g1, hP1, hD1, hS1⟩ hl (by omega) (by omega)
theorem g_castb {idx a n : Nat} {f : Nat → Int32} (ho : h a = some (gB Γ n f)) (hw : Cond.classLink M.1.cls idx "[B" ∈ lw_good) (hd : decode M.2.1 pc = .ok (.checkcast idx, 3)) (kk : G Γ M d mc ms Z ZX rc rs (pc + 3) L (.ref a :: st) h) : G Γ M d mc ms Z ZX rc rs pc L (.ref a :: st) h := by
  intro p e R s m args below meth c H locs cells slots ls C hd1 hd2 hd3 hd4 ha hl hc hs
  obtain ⟨hx, hb, hml, hown, hts, hr, hlocks, htb, hnm, hok, hK, hbs⟩ := id C
  obtain ⟨ws, g, hP, hD, hS⟩ := id ha
  obtain ⟨q0, hq0⟩ := gGr_get g ho
  exact va_castA hx hb hown (hts _ hw) hP q0 hq0 (va_nm_byte ((hok.2.1 s hK).1.2 1 _ rfl).2) hd (kk p e R s m args below meth c H locs cells slots ls C hd1 hd2 hd3 hd4 ha hl hc hs)
/-- a method of the class below, called by the name of the class above that has its own -/
def gLkO (own : String) (idx ci : Nat) (x : MethodName) (M0 M' : gM) (n : Nat) : Prop := ∃ (C : String) (T : u_T) (N : Nat), vwCl[ci]? = some (C, T, N) ∧ (∀ w ∈ va_wsO own idx C M0.1.cls x M'.1 [], w ∈ lw_good) ∧ gW M' ∈ lw_good ∧ M'.2.2.2.2 = [] ∧ Cond.code ⟨M0.1.cls, x.name, x.desc⟩ M0.2.1 M0.2.2.1 M0.2.2.2.1 ∈ lw_good ∧ M0.1.cls ≠ "java/lang/invoke/MethodHandle" ∧ M0.1.cls ≠ "java/lang/invoke/VarHandle" ∧ (parseMethodDescriptor x.desc).map (fun d => d.parameters.length) = some n
theorem g_callO {idx n d' mc' ms' rc' rs' : Nat} {M0 M' : gM} {av : List Value} {Z' : Option Value → gHp → Prop} {ZX' : String → gHp → Prop} {ci b : Nat} {As fs : List Value} {x : MethodName} (hlk : gLkO M.1.cls idx ci x M0 M' n) (hC : gC Γ M' av h d' mc' ms' Z' ZX') (hd : decode M.2.1 pc = .ok (.invokevirtual idx, 3)) (hst : st' = av.reverse ++ st) (hav : av = .ref b :: As) (ho : h b = some (.inr (ci, fs))) (hn : av.length = n + 1) (hdd : d' + 1 ≤ d) (hnl : M'.2.2.1 ≤ 80) (hcat : (st.map fun v => v.category).sum ≤ 8) (h1 : rc' + mc' ≤ rc) (h2 : rs' + ms' ≤ rs) (hh : M.2.2.2.2 = []) (kx : ∀ (E : String) (h' : gHp), ZX' E h' → ZX E h') (kk : ∀ (v : Option Value) (h' : gHp), Z' v h' → G Γ M d mc ms Z ZX rc' rs' (pc + 3) L (v.toList ++ st) h') : G Γ M d mc ms Z ZX rc rs pc L st' h := by
  intro p e R s m args below meth c H locs cells slots ls C hd1 hd2 hd3 hd4 ha hl hc hs
  obtain ⟨hx, hb, hml, hown, hts, hr, hlocks, htb, hnm, hok, hK, hbs⟩ := id C
  obtain ⟨ws, g, hP, hD, hS⟩ := id ha
  have hA : ∀ q, s.heap.size ≤ q → gA Γ q := fun q z => Nat.le_trans hbs z
  subst hst
  have hroom : (gRm d' mc' ms').frames + 1 ≤ R.frames ∧ 8 + (M'.2.2.1 + 11) + (gRm d' mc' ms').locals ≤ R.locals := by
    unfold gRm
    dsimp only
    omega
  have hPc : ∀ U : State, U.heap = H → s.WarmedH U.vm → va_Pc av (gU Γ h) av.toArray U := fun U hU hW => ⟨rfl, gAt_U hok hK hbs ha hU hW⟩
  refine g_after (av := av.toArray) (mc' := mc') (ms' := ms') (rc' := rc') (rs' := rs') ?_ C hd1 hd2 hd3 hd4 ha hl (by omega) (by omega) (fun E q h' H1 locs1 ce hz ha1 e1 e2 e3 => g_outx hh C ha1 (kx E h' hz) e1 e2 e3 (by omega) (by omega)) kk
  obtain ⟨C9, T9, N9, c1, l1, l5, l6, lx, l7, l8, l9⟩ := hlk
  have hw := gWno l6
  subst hav
  obtain ⟨q0, hq0⟩ := gGr_get g ho
  exact vx_runU (x := x) (As := As) ⟨hx, hb, hml, hown, hts⟩ (hC hok) (va_cwO (C := C9) (owner := M0.1.cls) (ws' := lw_good) n hts (gGoodA (pre := va_wsO M.1.cls idx C9 M0.1.cls x M'.1 []) l1 l5) (by rw [hw]) rfl rfl lx ⟨l7, l8, l9⟩ hroom) ⟨gBlind hok, va_recv (hok.2.1 s hK).1 hP c1 hq0, hPc⟩ rfl (by simpa using hn) hl.1 (by simp) (lv_room hcat) hd ⟨by omega, by omega⟩
end GSr
set_option maxRecDepth 100000 in
theorem wCl1 : Cond.methodLink RJ7 310 ⟨"[B", "clone", "()Ljava/lang/Object;"⟩ ∈ lw_good := (gIn (List.mem_of_getElem? (i := 1273) (by decide +kernel)) (by decide +kernel))
set_option maxRecDepth 100000 in
theorem wCl2 : Cond.sameMethod "[B" "java/lang/Object" "clone" "()Ljava/lang/Object;" ∈ lw_good := (gIn (List.mem_of_getElem? (i := 1274) (by decide +kernel)) (by decide +kernel))
set_option maxRecDepth 100000 in
theorem wCl3 : Cond.native ⟨"java/lang/Object", "clone", "()Ljava/lang/Object;"⟩ ∈ lw_good := (gIn (List.mem_of_getElem? (i := 1275) (by decide +kernel)) (by decide +kernel))
set_option maxRecDepth 100000 in
theorem wCl4 : Cond.instanceMethod ⟨"java/lang/Object", "clone", "()Ljava/lang/Object;"⟩ ∈ lw_good := (gIn (List.mem_of_getElem? (i := 1276) (by decide +kernel)) (by decide +kernel))
set_option maxRecDepth 100000 in
theorem wCl5 : Cond.selects "[B" ⟨"[B", "clone", "()Ljava/lang/Object;"⟩ ⟨"java/lang/Object", "clone", "()Ljava/lang/Object;"⟩ ∈ lw_good := (gIn (List.mem_of_getElem? (i := 1277) (by decide +kernel)) (by decide +kernel))
set_option maxRecDepth 100000 in
theorem wCl6 : Cond.castable "[B" "java/lang/Cloneable" ∈ lw_far := (gInF (List.mem_of_getElem? (i := 1278) (by decide +kernel)) (by decide +kernel))
set_option maxRecDepth 100000 in
theorem wCl7 : Cond.classLink RJ7 311 "[B" ∈ lw_good := (gIn (List.mem_of_getElem? (i := 1279) (by decide +kernel)) (by decide +kernel))
set_option maxRecDepth 100000 in
theorem wCP7b : Cond.methodLink RJ7 150 arraycopyName ∈ lw_good := (gIn (List.mem_of_getElem? (i := 422) (by decide +kernel)) (by decide +kernel))
set_option maxRecDepth 100000 in
theorem wOIRJ0 : Cond.methodLink RJ0 1 Lib.objectInit ∈ lw_good := (gIn (List.mem_of_getElem? (i := 1377) (by decide +kernel)) (by decide +kernel))
set_option maxRecDepth 100000 in
theorem kJ0_552U : gLkU RJ0 552 1 M_J5_getValue_6d5f1.1 M_J5_getValue_6d5f1 0 := ⟨RJ4, TJ4, 4, rfl, fun w hw => ((gAtOk (ws := va_wsU RJ0 552 RJ4 RJ5 M_J5_getValue_6d5f1.1 M_J5_getValue_6d5f1.1 []) (by decide +kernel)) w hw).resolve_right (fun z => absurd (List.mem_filter.mp z).2 ((by decide +kernel : ∀ w ∈ va_wsU RJ0 552 RJ4 RJ5 M_J5_getValue_6d5f1.1 M_J5_getValue_6d5f1.1 [], ¬ gFar w = true) w hw)), (gIn (List.mem_of_getElem? (i := 1382) (by decide +kernel)) (by decide +kernel)), rfl, rfl, by decide +kernel, by decide +kernel, by decide +kernel⟩
set_option maxRecDepth 100000 in
theorem kJ0_1047U : gLkU RJ0 1047 1 M_J5_isLatin1_aae02.1 M_J5_isLatin1_aae02 0 := ⟨RJ4, TJ4, 4, rfl, fun w hw => ((gAtOk (ws := va_wsU RJ0 1047 RJ4 RJ5 M_J5_isLatin1_aae02.1 M_J5_isLatin1_aae02.1 []) (by decide +kernel)) w hw).resolve_right (fun z => absurd (List.mem_filter.mp z).2 ((by decide +kernel : ∀ w ∈ va_wsU RJ0 1047 RJ4 RJ5 M_J5_isLatin1_aae02.1 M_J5_isLatin1_aae02.1 [], ¬ gFar w = true) w hw)), (gIn (List.mem_of_getElem? (i := 1284) (by decide +kernel)) (by decide +kernel)), rfl, rfl, by decide +kernel, by decide +kernel, by decide +kernel⟩
set_option maxRecDepth 100000 in
theorem kJ0_549O : gLkO RJ0 549 1 M_J5_length_8abf5.1 M_J5_length_8abf5 M_J4_length_8abf5 0 := ⟨RJ4, TJ4, 4, rfl, fun w hw => ((gAtOk (ws := va_wsO RJ0 549 RJ4 RJ5 M_J5_length_8abf5.1 M_J4_length_8abf5.1 []) (by decide +kernel)) w hw).resolve_right (fun z => absurd (List.mem_filter.mp z).2 ((by decide +kernel : ∀ w ∈ va_wsO RJ0 549 RJ4 RJ5 M_J5_length_8abf5.1 M_J4_length_8abf5.1 [], ¬ gFar w = true) w hw)), (gIn (List.mem_of_getElem? (i := 1388) (by decide +kernel)) (by decide +kernel)), rfl, (gIn (List.mem_of_getElem? (i := 1390) (by decide +kernel)) (by decide +kernel)), by decide +kernel, by decide +kernel, by decide +kernel⟩
theorem fin0_0 : gFin RJ0 0 0 := ⟨_, _, _, rfl, rfl⟩
theorem fin0_1 : gFin RJ0 0 1 := ⟨_, _, _, rfl, rfl⟩
