/-! A CALL INSIDE A TRY -/
section GCt
variable {Γ : gE} {h : gHp} {M : gM} {d mc ms rc rs pc : Nat} {Z : Option Value → gHp → Prop} {ZX : String → gHp → Prop} {L : List (Option Value)} {st st' : List Value}
/-- the handler that takes E, thrown at pc -/
def gHnd (Γ : gE) (own : String) (pc : Nat) (E : String) : List (Nat × Nat × Nat × Nat) → Nat → Prop
  | [], _ => False
  | x :: t, hp => (covers ⟨x.1, x.2.1, x.2.2.1, x.2.2.2⟩ pc = true ∧ x.2.2.2 ≠ 0 ∧ Cond.classLink own x.2.2.2 E ∈ lw_good ∧ Cond.castable E E ∈ lw_far ∧ x.2.2.1 = hp) ∨ ((x.2.2.2 ≠ 0 ∧ ∃ nm, Cond.classLink own x.2.2.2 nm ∈ lw_good ∧ ∀ U, gK Γ U → va_Nc E nm U) ∧ gHnd Γ own pc E t hp)
theorem gHnd_split {own E : String} {pc hp : Nat} : ∀ {hs : List (Nat × Nat × Nat × Nat)}, gHnd Γ own pc E hs hp → ∃ pre x suf, tableOf hs = pre ++ x :: suf ∧ (∀ z ∈ pre, z.catchType ≠ 0 ∧ ∃ nm, Cond.classLink own z.catchType nm ∈ lw_good ∧ ∀ U, gK Γ U → va_Nc E nm U) ∧ covers x pc = true ∧ x.catchType ≠ 0 ∧ Cond.classLink own x.catchType E ∈ lw_good ∧ Cond.castable E E ∈ lw_far ∧ x.handlerPc = hp
  | [], H => H.elim
  | x :: t, H => by
    rcases H with ⟨h1, h2, h3, h4, h5⟩ | ⟨h1, h2⟩
    · exact ⟨[], ⟨x.1, x.2.1, x.2.2.1, x.2.2.2⟩, tableOf t, rfl, fun z hz => absurd hz List.not_mem_nil, h1, h2, h3, h4, h5⟩
    · obtain ⟨pre, y, suf, a1, a2, a3⟩ := gHnd_split h2
      refine ⟨⟨x.1, x.2.1, x.2.2.1, x.2.2.2⟩ :: pre, y, suf, ?_, fun z hz => ?_, a3⟩
      · show _ :: tableOf t = _
        rw [a1]
        rfl
      · rcases List.mem_cons.mp hz with rfl | z9
        · exact h1
        · exact a2 z z9
theorem g_callST {idx n d' mc' ms' rc' rs' : Nat} {M' : gM} {av : List Value} {Z' : Option Value → gHp → Prop} {ZX' : String → gHp → Prop} (hlk : gLkS M.1.cls idx M' n) (hC : gC Γ M' av h d' mc' ms' Z' ZX') (hd : decode M.2.1 pc = .ok (.invokestatic idx, 3)) (hst : st' = av.reverse ++ st) (hn : av.length = n) (hdd : d' + 1 ≤ d) (hnl : M'.2.2.1 ≤ 80) (hcat : (st.map fun v => v.category).sum ≤ 8) (h1 : rc' + mc' ≤ rc) (h2 : rs' + ms' ≤ rs) (kx : ∀ (E : String) (h' : gHp), ZX' E h' → ∃ hp, gHnd Γ M.1.cls pc E M.2.2.2.2 hp ∧ ∀ q, G Γ M d mc ms Z ZX rc' rs' hp L [.ref q] h') (kk : ∀ (v : Option Value) (h' : gHp), Z' v h' → G Γ M d mc ms Z ZX rc' rs' (pc + 3) L (v.toList ++ st) h') : G Γ M d mc ms Z ZX rc rs pc L st' h := by
  intro p e R s m args below meth c H locs cells slots ls C hd1 hd2 hd3 hd4 ha hl hc hs
  obtain ⟨hx, hb, hml, hown, hts, hr, hlocks, htb, hnm, hok, hK, hbs⟩ := id C
  obtain ⟨ws, g, hP, hD, hS⟩ := id ha
  have hA : ∀ q, s.heap.size ≤ q → gA Γ q := fun q z => Nat.le_trans hbs z
  subst hst
  have hroom : (gRm d' mc' ms').frames + 1 ≤ R.frames ∧ 8 + (M'.2.2.1 + 11) + (gRm d' mc' ms').locals ≤ R.locals := by
    unfold gRm
    dsimp only
    omega
  have hPc : ∀ U : State, U.heap = H → s.WarmedH U.vm → va_Pc av (gU Γ h) av.toArray U := fun U hU hW => ⟨rfl, gAt_U hok hK hbs ha hU hW⟩
  refine g_after (av := av.toArray) (mc' := mc') (ms' := ms') (rc' := rc') (rs' := rs') ?_ C hd1 hd2 hd3 hd4 ha hl (by omega) (by omega) (fun E q h' H1 locs1 ce hz ha1 e1 e2 e3 => by
    obtain ⟨hp, hH, k9⟩ := kx E h' hz
    obtain ⟨pre, x, suf, s1, s2, s3, s4, s5, s6, s7⟩ := gHnd_split hH
    refine vx_catch (name := E) hown pre x suf (htb.trans s1) (fun z hz9 => ?_) s3 s4 (hts _ s5) (va_Nw.use rfl ((hok.2.1 s hK).2 _ s6)) e1 e2 e3 ?_
    · obtain ⟨y1, nm, y2, y3⟩ := s2 z hz9
      exact Or.inr ⟨y1, nm, hts _ y2, y3 s hK⟩
    · rw [s7]
      exact k9 q p e R s m args below meth c H1 locs1 _ _ ls C hd1 hd2 hd3 hd4 ha1 hl (by omega) (by omega)) kk
  obtain ⟨l1, l2, l3, l4, l5, l6⟩ := hlk
  have hw := gWno l5
  exact vx_runS ⟨hx, hb, hml, hown, hts⟩ (hC hok) ⟨callB_of (ws' := lw_good) n hts (gGoodW l4) (by rw [hw]) rfl rfl (hts _ l3) (hts _ l1) l6 hroom, hts _ l2⟩ ⟨gBlind hok, hPc⟩ rfl hn hl.1 rfl (lv_room hcat) hd ⟨by omega, by omega⟩
def xAR : String := "java/lang/ArithmeticException"
def xAll : List String := [xIA, xIO, xNS, xIS]
/-- no exception of the face is another -/
def gPnc (Γ : gE) : Prop := ∀ E ∈ xAll, ∀ T ∈ xAll, E ≠ T → ∀ U, gK Γ U → va_Nc E T U
set_option maxRecDepth 100000 in
theorem ca_xIA : Cond.castable xIA xIA ∈ lw_far := (gInF (List.mem_of_getElem? (i := 498) (by decide +kernel)) (by decide +kernel))
set_option maxRecDepth 100000 in
theorem cl_xIA : Cond.classLink RL 61 xIA ∈ lw_good := (gIn (List.mem_of_getElem? (i := 688) (by decide +kernel)) (by decide +kernel))
set_option maxRecDepth 100000 in
theorem ca_xIO : Cond.castable xIO xIO ∈ lw_far := (gInF (List.mem_of_getElem? (i := 569) (by decide +kernel)) (by decide +kernel))
set_option maxRecDepth 100000 in
theorem cl_xIO : Cond.classLink RL 59 xIO ∈ lw_good := (gIn (List.mem_of_getElem? (i := 667) (by decide +kernel)) (by decide +kernel))
set_option maxRecDepth 100000 in
theorem ca_xNS : Cond.castable xNS xNS ∈ lw_far := (gInF (List.mem_of_getElem? (i := 585) (by decide +kernel)) (by decide +kernel))
set_option maxRecDepth 100000 in
theorem cl_xNS : Cond.classLink RL 65 xNS ∈ lw_good := (gIn (List.mem_of_getElem? (i := 690) (by decide +kernel)) (by decide +kernel))
set_option maxRecDepth 100000 in
theorem ca_xIS : Cond.castable xIS xIS ∈ lw_far := (gInF (List.mem_of_getElem? (i := 601) (by decide +kernel)) (by decide +kernel))
set_option maxRecDepth 100000 in
theorem cl_xIS : Cond.classLink RL 63 xIS ∈ lw_good := (gIn (List.mem_of_getElem? (i := 689) (by decide +kernel)) (by decide +kernel))
end GCt
