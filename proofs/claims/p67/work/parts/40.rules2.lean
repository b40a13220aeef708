/-! MORE RULES: throws, Strings, statics, persistent objects -/
section GR2
variable {Γ : gE} {M : gM} {d mc ms : Nat} {Z : Option Value → gHp → Prop} {ZX : String → gHp → Prop} {rc rs pc : Nat} {L L' : List (Option Value)} {st st' : List Value} {h : gHp}
theorem gFar_on {w : Cond} (g : gFar w = true) : w.onTables = true := by
  cases w <;> first | rfl | (simp [gFar] at g; done)
theorem gAtOk {ws : List Cond} (h : ws.all (fun w => lw_tbl.contains w && (goodWord w || gFar w)) = true) : ∀ w ∈ ws, w ∈ lw_good ∨ w ∈ lw_far := by
  intro w hw
  have h1 := List.all_eq_true.mp h w hw
  rw [Bool.and_eq_true, Bool.or_eq_true] at h1
  have h2 : w ∈ lw_tbl := by simpa using h1.1
  rcases h1.2 with z | z
  · exact Or.inl (gIn h2 z)
  · exact Or.inr (gInF h2 z)
/-- what is said of a place that makes an exception and throws it -/
def gThr (own : String) (ik ic : Nat) (cls : String) (names : List String) : Prop := Bundle.fit cls = true ∧ (∀ n ∈ names, Bundle.fit n = true) ∧ Cond.classLink own ik cls ∈ lw_good ∧ Cond.initialized cls ∈ lw_good ∧ (∀ w ∈ vx_atS own ic cls names, w ∈ lw_good ∨ w ∈ lw_far) ∧ (∀ w ∈ Cond.classLink own ik cls :: Cond.initialized cls :: vx_atS own ic cls names, vx_ot w = true)
/-- the two statics of Throwable -/
def gPt (Γ : gE) : Prop := ∀ U, gK Γ U → vx_Zq Bundle.tN "UNASSIGNED_STACK" Bundle.steD (gA Γ) U U.heap ∧ vx_Zq Bundle.tN "SUPPRESSED_SENTINEL" Bundle.listD (gA Γ) U U.heap
/-- a String of a pool -/
def gPs (Γ : gE) (own : String) (k : Nat) (tx : String) (a : Nat) : Prop := ∀ U, gK Γ U → vk_R own k tx a U
theorem g_throw {ik is ic sa : Nat} {cls text : String} {names : List String} (ht : gThr M.1.cls ik ic cls names) (hp : gPt Γ) (hstr : gPs Γ M.1.cls is text sa) (d0 : decode M.2.1 pc = .ok (.new ik, 3)) (d3 : decode M.2.1 (pc + 3) = .ok (.dup, 1)) (d4 : decode M.2.1 (pc + 4) = .ok (.ldc is, 2)) (d6 : decode M.2.1 (pc + 6) = .ok (.invokespecial ic, 3)) (d9 : decode M.2.1 (pc + 9) = .ok (.athrow, 1)) (hh : M.2.2.2.2 = []) (hd : names.length + 4 ≤ d) (hcat : (st.map fun v => v.category).sum ≤ 8) (h1 : 1 ≤ rc) (h2 : 6 ≤ rs) (hz : ZX cls h) : G Γ M d mc ms Z ZX rc rs pc L st h := by
  intro p e R s m args below meth c H locs cells slots ls C hd1 hd2 hd3 hd4 ha hl hc hs
  obtain ⟨hx, hb, hml, hown, hts, hr, hlocks, htb, hnm, hok, hK, hbs⟩ := id C
  obtain ⟨ws, g, hP, hD, hS⟩ := id ha
  obtain ⟨t1, t2, t3, t4, t5, t6⟩ := ht
  refine vx_throwS (A := gA Γ) (sa := sa) (text := text) (names := names) hx hb hok.1 hown t1 t2 (hts _ t3) (hts _ t4) (hstr s hK) (fun w hw => ?_) t6 (hp s hK).1 (hp s hK).2 hS (by rw [hl.1, hml]) d0 d3 d4 d6 d9 (fun x hx9 => by rw [htb, hh] at hx9; cases hx9) (by omega) (by omega) (by omega) (by omega) hlocks (fun t hal hsz hq => ?_) hS.2.2 (by omega) (by omega)
  · rcases t5 w hw with z | z
    · exact hts w z
    · exact va_Nw.use (gFar_on (List.mem_filter.mp z).2) ((hok.2.1 s hK).2 w z)
  · have hP1 : va_P (gD Γ) vwCl ws t.heap := hP.kept (fun k q hk => hq q.1 (hP k q hk).lt)
    refine ⟨⟨h, hz, Nat.le_trans hbs (Nat.le_trans hS.1 hsz), ws, g, hP1, hD⟩, Nat.le_trans hS.1 hsz, fun q q1 q2 => ?_⟩
    rw [hq q (Nat.lt_of_lt_of_le q1 hS.1)]
    exact hS.2.1 q q1 q2
theorem g_throwW {ik is ic sa : Nat} {cls text : String} {names : List String} (ht : gThr M.1.cls ik ic cls names) (hp : gPt Γ) (hstr : gPs Γ M.1.cls is text sa) (d0 : decode M.2.1 pc = .ok (.new ik, 3)) (d3 : decode M.2.1 (pc + 3) = .ok (.dup, 1)) (d4 : decode M.2.1 (pc + 4) = .ok (.ldc_w is, 3)) (d7 : decode M.2.1 (pc + 7) = .ok (.invokespecial ic, 3)) (d10 : decode M.2.1 (pc + 10) = .ok (.athrow, 1)) (hh : M.2.2.2.2 = []) (hd : names.length + 4 ≤ d) (hcat : (st.map fun v => v.category).sum ≤ 8) (h1 : 1 ≤ rc) (h2 : 6 ≤ rs) (hz : ZX cls h) : G Γ M d mc ms Z ZX rc rs pc L st h := by
  intro p e R s m args below meth c H locs cells slots ls C hd1 hd2 hd3 hd4 ha hl hc hs
  obtain ⟨hx, hb, hml, hown, hts, hr, hlocks, htb, hnm, hok, hK, hbs⟩ := id C
  obtain ⟨ws, g, hP, hD, hS⟩ := id ha
  obtain ⟨t1, t2, t3, t4, t5, t6⟩ := ht
  refine vx_throwSW (A := gA Γ) (sa := sa) (text := text) (names := names) hx hb hok.1 hown t1 t2 (hts _ t3) (hts _ t4) (hstr s hK) (fun w hw => ?_) t6 (hp s hK).1 (hp s hK).2 hS (by rw [hl.1, hml]) d0 d3 d4 d7 d10 (fun x hx9 => by rw [htb, hh] at hx9; cases hx9) (by omega) (by omega) (by omega) (by omega) hlocks (fun t hal hsz hq => ?_) hS.2.2 (by omega) (by omega)
  · rcases t5 w hw with z | z
    · exact hts w z
    · exact va_Nw.use (gFar_on (List.mem_filter.mp z).2) ((hok.2.1 s hK).2 w z)
  · have hP1 : va_P (gD Γ) vwCl ws t.heap := hP.kept (fun k q hk => hq q.1 (hP k q hk).lt)
    refine ⟨⟨h, hz, Nat.le_trans hbs (Nat.le_trans hS.1 hsz), ws, g, hP1, hD⟩, Nat.le_trans hS.1 hsz, fun q q1 q2 => ?_⟩
    rw [hq q (Nat.lt_of_lt_of_le q1 hS.1)]
    exact hS.2.1 q q1 q2
theorem g_ldc {idx sa : Nat} {tx : String} (hstr : gPs Γ M.1.cls idx tx sa) (hd : decode M.2.1 pc = .ok (.ldc idx, 2)) (k : G Γ M d mc ms Z ZX rc rs (pc + 2) L (.ref sa :: st) h) : G Γ M d mc ms Z ZX rc rs pc L st h := by
  intro p e R s m args below meth c H locs cells slots ls C hd1 hd2 hd3 hd4 ha hl hc hs
  obtain ⟨hx, hb, hml, hown, hts, hr, hlocks, htb, hnm, hok, hK, hbs⟩ := id C
  exact va_ldcS hx hb hown (hstr s hK) hd (k p e R s m args below meth c H locs cells slots ls C hd1 hd2 hd3 hd4 ha hl hc hs)
/-- a field of a persistent object -/
def gPf (Γ : gE) (o n d : String) (a : Nat) (v : Value) : Prop := ∀ U, gK Γ U → va_OF o n d v a (gA Γ) U U.heap
theorem g_getP {idx a : Nat} {o n d' ref : String} {v : Value} (hf : gPf Γ o n d' a v) (hl9 : Cond.fieldLink M.1.cls idx ref n d' ∈ lw_good) (hs9 : ref = o ∨ Cond.sameField ref o n d' ∈ lw_good) (hd : decode M.2.1 pc = .ok (.getfield idx, 3)) (k : G Γ M d mc ms Z ZX rc rs (pc + 3) L (v :: st) h) : G Γ M d mc ms Z ZX rc rs pc L (.ref a :: st) h := by
  intro p e R s m args below meth c H locs cells slots ls C hd1 hd2 hd3 hd4 ha hl hc hs
  obtain ⟨hx, hb, hml, hown, hts, hr, hlocks, htb, hnm, hok, hK, hbs⟩ := id C
  obtain ⟨ws, g, hP, hD, hS⟩ := id ha
  exact vk_getf hx hb (hf s hK) hS hown (hts _ hl9) (gSame hts hs9) hd (k p e R s m args below meth c H locs cells slots ls C hd1 hd2 hd3 hd4 ha hl hc hs)
/-- a static -/
def gPz (Γ : gE) (C n d : String) (v : Value) : Prop := ∀ U, gK Γ U → va_Z C n d v (gA Γ) U U.heap
theorem g_gets {idx : Nat} {o n d' ref : String} {v : Value} (hf : gPz Γ o n d' v) (hl9 : Cond.fieldLink M.1.cls idx ref n d' ∈ lw_good) (hs9 : ref = o ∨ Cond.sameField ref o n d' ∈ lw_good) (hd : decode M.2.1 pc = .ok (.getstatic idx, 3)) (k : G Γ M d mc ms Z ZX rc rs (pc + 3) L (v :: st) h) : G Γ M d mc ms Z ZX rc rs pc L st h := by
  intro p e R s m args below meth c H locs cells slots ls C hd1 hd2 hd3 hd4 ha hl hc hs
  obtain ⟨hx, hb, hml, hown, hts, hr, hlocks, htb, hnm, hok, hK, hbs⟩ := id C
  obtain ⟨ws, g, hP, hD, hS⟩ := id ha
  exact va_gets hx hb (hf s hK) hS hown (hts _ hl9) (gSame hts hs9) hd (k p e R s m args below meth c H locs cells slots ls C hd1 hd2 hd3 hd4 ha hl hc hs)
theorem g_getsN {idx : Nat} {o n d' ref host : String} {v : Value} (hf : gPz Γ o n d' v) (hl9 : Cond.fieldLinkNest M.1.cls idx ref n d' host ∈ lw_far) (hs9 : ref = o ∨ Cond.sameField ref o n d' ∈ lw_good) (hd : decode M.2.1 pc = .ok (.getstatic idx, 3)) (k : G Γ M d mc ms Z ZX rc rs (pc + 3) L (v :: st) h) : G Γ M d mc ms Z ZX rc rs pc L st h := by
  intro p e R s m args below meth c H locs cells slots ls C hd1 hd2 hd3 hd4 ha hl hc hs
  obtain ⟨hx, hb, hml, hown, hts, hr, hlocks, htb, hnm, hok, hK, hbs⟩ := id C
  obtain ⟨ws, g, hP, hD, hS⟩ := id ha
  exact va_getsN hx hb (hf s hK) hS hown (va_Nw.use (gFar_on (List.mem_filter.mp hl9).2) ((hok.2.1 s hK).2 _ hl9)) (gSame hts hs9) hd (k p e R s m args below meth c H locs cells slots ls C hd1 hd2 hd3 hd4 ha hl hc hs)
/-- a persistent row -/
def gPa (Γ : gE) (ty : FieldType) (a n : Nat) (f : Nat → Value) : Prop := ∀ U, gK Γ U → va_T ty a n f (gA Γ) U U.heap
theorem g_alenP {a n : Nat} {ty : FieldType} {f : Nat → Value} (hf : gPa Γ ty a n f) (hd : decode M.2.1 pc = .ok (.arraylength, 1)) (k : G Γ M d mc ms Z ZX rc rs (pc + 1) L (.int (nI n) :: st) h) : G Γ M d mc ms Z ZX rc rs pc L (.ref a :: st) h := by
  intro p e R s m args below meth c H locs cells slots ls C hd1 hd2 hd3 hd4 ha hl hc hs
  obtain ⟨hx, hb, hml, hown, hts, hr, hlocks, htb, hnm, hok, hK, hbs⟩ := id C
  obtain ⟨ws, g, hP, hD, hS⟩ := id ha
  exact va_tlen hx hb (hf s hK) hS rfl hd (k p e R s m args below meth c H locs cells slots ls C hd1 hd2 hd3 hd4 ha hl hc hs)
theorem g_baloadP {a n : Nat} {f : Nat → Value} {i : Int32} (hf : gPa Γ .byte a n f) (hin : vp_in i n) (hd : decode M.2.1 pc = .ok (.baload, 1)) (k : G Γ M d mc ms Z ZX rc rs (pc + 1) L (f i.toNatClampNeg :: st) h) : G Γ M d mc ms Z ZX rc rs pc L (.int i :: .ref a :: st) h := by
  intro p e R s m args below meth c H locs cells slots ls C hd1 hd2 hd3 hd4 ha hl hc hs
  obtain ⟨hx, hb, hml, hown, hts, hr, hlocks, htb, hnm, hok, hK, hbs⟩ := id C
  obtain ⟨ws, g, hP, hD, hS⟩ := id ha
  exact va_tb hx hb (hf s hK) hS hin rfl hd (k p e R s m args below meth c H locs cells slots ls C hd1 hd2 hd3 hd4 ha hl hc hs)
theorem g_ialoadP {a n : Nat} {f : Nat → Value} {i : Int32} (hf : gPa Γ .int a n f) (hin : vp_in i n) (hd : decode M.2.1 pc = .ok (.iaload, 1)) (k : G Γ M d mc ms Z ZX rc rs (pc + 1) L (f i.toNatClampNeg :: st) h) : G Γ M d mc ms Z ZX rc rs pc L (.int i :: .ref a :: st) h := by
  intro p e R s m args below meth c H locs cells slots ls C hd1 hd2 hd3 hd4 ha hl hc hs
  obtain ⟨hx, hb, hml, hown, hts, hr, hlocks, htb, hnm, hok, hK, hbs⟩ := id C
  obtain ⟨ws, g, hP, hD, hS⟩ := id ha
  exact va_ti hx hb (hf s hK) hS hin rfl hd (k p e R s m args below meth c H locs cells slots ls C hd1 hd2 hd3 hd4 ha hl hc hs)
theorem g_aaloadP {a n : Nat} {E : String} {f : Nat → Value} {i : Int32} (hf : gPa Γ (.object E) a n f) (hin : vp_in i n) (hd : decode M.2.1 pc = .ok (.aaload, 1)) (k : G Γ M d mc ms Z ZX rc rs (pc + 1) L (f i.toNatClampNeg :: st) h) : G Γ M d mc ms Z ZX rc rs pc L (.int i :: .ref a :: st) h := by
  intro p e R s m args below meth c H locs cells slots ls C hd1 hd2 hd3 hd4 ha hl hc hs
  obtain ⟨hx, hb, hml, hown, hts, hr, hlocks, htb, hnm, hok, hK, hbs⟩ := id C
  obtain ⟨ws, g, hP, hD, hS⟩ := id ha
  exact vb_tq hx hb (hf s hK) hS hin rfl hd (k p e R s m args below meth c H locs cells slots ls C hd1 hd2 hd3 hd4 ha hl hc hs)
/-- a persistent object of a class -/
def gPo (Γ : gE) (E : String) (a : Nat) : Prop := ∀ U, gK Γ U → va_O E a (gA Γ) U U.heap
def gLkP (own : String) (idx : Nat) (M' : gM) (n : Nat) : Prop := Cond.methodLink own idx M'.1 ∈ lw_good ∧ Cond.instanceMethod M'.1 ∈ lw_good ∧ Cond.selects M'.1.cls M'.1 M'.1 ∈ lw_good ∧ Cond.initialized M'.1.cls ∈ lw_good ∧ gW M' ∈ lw_good ∧ M'.2.2.2.2 = [] ∧ gDesc M' n
theorem g_callP {idx n d' mc' ms' rc' rs' : Nat} {M' : gM} {av : List Value} {Z' : Option Value → gHp → Prop} {ZX' : String → gHp → Prop} {b : Nat} {As : List Value} (hlk : gLkP M.1.cls idx M' n) (hC : gC Γ M' av h d' mc' ms' Z' ZX') (hd : decode M.2.1 pc = .ok (.invokevirtual idx, 3)) (hst : st' = av.reverse ++ st) (hav : av = .ref b :: As) (ho : gPo Γ M'.1.cls b) (hn : av.length = n + 1) (hdd : d' + 1 ≤ d) (hnl : M'.2.2.1 ≤ 80) (hcat : (st.map fun v => v.category).sum ≤ 8) (h1 : rc' + mc' ≤ rc) (h2 : rs' + ms' ≤ rs) (hh : M.2.2.2.2 = []) (kx : ∀ (E : String) (h' : gHp), ZX' E h' → ZX E h') (kk : ∀ (v : Option Value) (h' : gHp), Z' v h' → G Γ M d mc ms Z ZX rc' rs' (pc + 3) L (v.toList ++ st) h') : G Γ M d mc ms Z ZX rc rs pc L st' h := by
  intro p e R s m args below meth c H locs cells slots ls C hd1 hd2 hd3 hd4 ha hl hc hs
  obtain ⟨hx, hb, hml, hown, hts, hr, hlocks, htb, hnm, hok, hK, hbs⟩ := id C
  obtain ⟨ws, g, hP, hD, hS⟩ := id ha
  have hA : ∀ q, s.heap.size ≤ q → gA Γ q := fun q z => Nat.le_trans hbs z
  subst hst
  have hroom : (gRm d' mc' ms').frames + 1 ≤ R.frames ∧ 8 + (M'.2.2.1 + 11) + (gRm d' mc' ms').locals ≤ R.locals := by
    unfold gRm
    dsimp only
    omega
  have hPc : ∀ U : State, U.heap = H → s.WarmedH U.vm → va_Pc av (gU Γ h) av.toArray U := fun U hU hW => ⟨rfl, gAt_U hok hK hbs ha hU hW⟩
  refine g_after (av := av.toArray) (mc' := mc') (ms' := ms') (rc' := rc') (rs' := rs') ?_ C hd1 hd2 hd3 hd4 ha hl (by omega) (by omega) (fun E q h' H1 locs1 ce hz ha1 e1 e2 e3 => g_outx hh C ha1 (kx E h' hz) e1 e2 e3 (by omega) (by omega)) kk
  obtain ⟨l1, l2, l3, l4, l5, l6, l7⟩ := hlk
  have hw := gWno l6
  subst hav
  have hrv : ∃ cell : Cell, H[b]? = some cell ∧ cell.vm.isStatics = false ∧ s.vm.findClass M'.1.cls = some cell.cls := by
    obtain ⟨cell, z1, z2, z3, -⟩ := (ho s hK).kept hS.2.1
    exact ⟨cell, z1, z2, z3⟩
  exact vx_runV (As := As) ⟨hx, hb, hml, hown, hts⟩ (hC hok) ⟨callB_of (ws' := lw_good) n hts (gGoodW l5) (by rw [hw]) rfl rfl (hts _ l4) (hts _ l1) l7 hroom, hts _ l2, hts _ l3⟩ ⟨gBlind hok, hrv, hPc⟩ rfl (by simpa using hn) hl.1 (by simp) (lv_room hcat) hd ⟨by omega, by omega⟩
end GR2
